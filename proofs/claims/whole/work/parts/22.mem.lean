/-! ===== fields, arrays, new cells ===== -/
theorem ash_big {n : Nat} (h : 1000000 ≤ n) (hk : (ash n).1 < 500) : (n = 1000000 ∨ n = 1000001) ∧ (ash n).1 = 100 := by
  have h1 : ¬ n < 154 := by omega
  have h2 : ¬ n < 1000000 := by omega
  by_cases e1 : n = 1000000
  · subst e1; exact ⟨Or.inl rfl, rfl⟩
  · by_cases e2 : n = 1000001
    · subst e2; exact ⟨Or.inr rfl, rfl⟩
    · simp only [ash, h1, h2, e1, e2, if_false] at hk
      exact absurd hk (by decide)
theorem cE_obj {cA : Nat → ClassId} {ad : Nat → Nat} {M : aM} {n ci : Nat} (h : (ash n).1 = ci) (hc : ci < 50) : cE cA ad M n = .inr (ci, cF ad M n ci) := by
  subst h; simp only [cE, hc, if_true]
theorem cE_int {cA : Nat → ClassId} {ad : Nat → Nat} {M : aM} {n : Nat} (h : (ash n).1 = 100) : cE cA ad M n = .inl (cA 0, (ash n).2, .inl (fun j => Int32.ofInt (M n j))) := by simp [cE, h]
theorem cE_byte {cA : Nat → ClassId} {ad : Nat → Nat} {M : aM} {n : Nat} (h : (ash n).1 = 101) : cE cA ad M n = .inl (cA 1, (ash n).2, .inl (fun j => Int32.ofInt (M n j))) := by simp [cE, h]
theorem cE_long {cA : Nat → ClassId} {ad : Nat → Nat} {M : aM} {n : Nat} (h : (ash n).1 = 102) : cE cA ad M n = .inl (cA 2, (ash n).2, .inr (.inl (fun j => Int64.ofInt (M n j)))) := by simp [cE, h]
theorem cE_row {cA : Nat → ClassId} {ad : Nat → Nat} {M : aM} {n : Nat} (h : (ash n).1 = 103) : cE cA ad M n = .inl (cA 3, (ash n).2, .inr (.inr (.inr (.inr (fun j => if M n j < 0 then none else some (ad (M n j).toNat)))))) := by simp [cE, h]
theorem cF_at {ad : Nat → Nat} {M : aM} {n ci k : Nat} (h : k < afn ci) : (cF ad M n ci)[k]? = some (cV ad (aft ci k, M n k)) := by
  simp [cF, List.getElem?_map, List.getElem?_range h]
theorem cF_len {ad : Nat → Nat} {M : aM} {n ci : Nat} : (cF ad M n ci).length = afn ci := by simp [cF]
theorem cF_set {ad : Nat → Nat} {M : aM} {n ci k : Nat} {x : Int} (h : k < afn ci) : cF ad (aup M n k x) n ci = (cF ad M n ci).set k (cV ad (aft ci k, x)) := by
  apply List.ext_getElem?
  intro j
  by_cases hj : j < afn ci
  · rw [cF_at hj]
    by_cases hjk : j = k
    · subst hjk
      rw [List.getElem?_set_self (by rw [cF_len]; exact h), aup_self]
    · rw [List.getElem?_set_ne (fun q => hjk q.symm), cF_at hj, aup_ne (fun q => hjk q.2)]
  · rw [List.getElem?_eq_none (by rw [cF_len]; omega), List.getElem?_eq_none (by rw [List.length_set, cF_len]; omega)]
theorem rng_obj {top n k ci : Nat} {x : Int} (h : (ash n).1 = ci) (hc : ci < 50) : rng top n k x ↔ okV top (aft ci k, x) := by
  subst h; simp only [rng, hc, if_true]
theorem rng_int {top n k : Nat} {x : Int} (h : (ash n).1 = 100) : rng top n k x ↔ aIn x := by simp [rng, h]
theorem rng_byte {top n k : Nat} {x : Int} (h : (ash n).1 = 101) : rng top n k x ↔ (-128 ≤ x ∧ x < 128) := by simp [rng, h]
theorem rng_long {top n k : Nat} {x : Int} (h : (ash n).1 = 102) : rng top n k x ↔ aInL x := by simp [rng, h]
theorem rng_row {top n k : Nat} {x : Int} (h : (ash n).1 = 103) : rng top n k x ↔ okV top (2, x) := by simp [rng, h]
theorem okM_awr {σ : aS} {n k : Nat} {v : Int} (h : okM σ) (hv : rng σ.2.1 n k v) : okM (awr σ n k v) := by
  intro a b hab
  show rng σ.2.1 a b (aup σ.1 n k v a b)
  by_cases e : a = n ∧ b = k
  · obtain ⟨rfl, rfl⟩ := e
    rw [aup_self]; exact hv
  · rw [aup_ne e]; exact h a b hab
/-- behind a write of one place -/
theorem Iv.wr {D : va_G} {cA : Nat → ClassId} {A : Nat → Prop} {s : State} {ad0 ad : Nat → Nat} {M0 : aM} {t0 c0 u0 nL : Nat} {L S S1 : List aV} {σ : aS} {H H1 : Heap} {locs locs1 : List Loc} {ls : Array Slot} {cells slots n k : Nat} {v : Int} {e1 : va_E} (h : Iv D cA A s ad0 M0 t0 c0 u0 nL ad L S σ H locs ls cells slots) (hn : n < σ.2.1) (he : cE cA ad (aup σ.1 n k v) n = e1) (hv : rng σ.2.1 n k v) (hP : va_P D vwCl ((cW cA ad σ).set n (ad n, e1)) H1) (hD : va_D A ((cW cA ad σ).set n (ad n, e1))) (hS1 : va_S A s.heap H1 locs1) (hS : ∀ v ∈ S1, okV σ.2.1 v) : Iv D cA A s ad0 M0 t0 c0 u0 nL ad L S1 (awr σ n k v) H1 locs1 ls cells slots := by
  have e : (cW cA ad σ).set n (ad n, e1) = cW cA ad (awr σ n k v) := cW_set (M := σ.1) (M1 := aup σ.1 n k v) (x := σ.2) hn he (fun a ha => cE_cong (aup_cell ha))
  rw [e] at hP hD
  refine ⟨⟨hP, hD, hS1, okM_awr h.1.2.2.2 hv⟩, h.2.1, hS, h.2.2.2.1, h.2.2.2.2.1, fun a b hab => ?_, h.2.2.2.2.2.2⟩
  have hlt : n < 1000000 := Nat.lt_of_lt_of_le hn h.2.2.2.2.2.2.2.2
  show aup σ.1 n k v a b = _
  rw [aup_ne (fun q => by omega)]
  exact h.2.2.2.2.2.1 a b hab
def tyOk (t : Nat) (ty : FieldType) : Prop := (t = 0 ∧ ty = .int) ∨ (t = 1 ∧ ty = .long) ∨ (t = 2 ∧ ((∃ n, ty = .object n) ∨ ∃ u, ty = .array u))
theorem tyOk_fit {t top : Nat} {ty : FieldType} {x : Int} {ad : Nat → Nat} (h : tyOk t ty) : narrow ty (cV ad (t, x)) = cV ad (t, x) ∧ fits ty (cV ad (t, x)) = true := by
  rcases h with ⟨rfl, rfl⟩ | ⟨rfl, rfl⟩ | ⟨rfl, ⟨n, rfl⟩ | ⟨u, rfl⟩⟩
  · exact ⟨rfl, rfl⟩
  · exact ⟨rfl, rfl⟩
  · by_cases hx : x < 0
    · rw [cV_n ad hx]; exact ⟨rfl, rfl⟩
    · rw [cV_2 ad (by omega)]; exact ⟨rfl, rfl⟩
  · by_cases hx : x < 0
    · rw [cV_n ad hx]; exact ⟨rfl, rfl⟩
    · rw [cV_2 ad (by omega)]; exact ⟨rfl, rfl⟩
section Mem
variable {p : Program} {l : Launch} {e : Env} {R : Room} {s : State} {m : MethodId} {args : Array Value} {below : List Frame} {meth : Method} {c : Code} {Q : State → Prop} {cc : ByteArray} {nL : Nat} {own : String} {D : va_G} {cA : Nat → ClassId} {A : Nat → Prop} {ad0 : Nat → Nat} {M0 : aM} {t0 c0 u0 : Nat} {pc : Nat} {L S : List aV} {σ : aS}
/-- a field read: by a plain link or a nest mate's -/
theorem k_getfield (hC : Cx p s m args c cc nL own D cA A ad0 M0) (i ci k : Nat) {C : String} {T : u_T} {N : Nat} (hc : vwCl[ci]? = some (C, T, N)) (hN : N = afn ci) (hk : k < N) (hci : ci < 50) (hin : ∀ w ∈ u_ws C T N, w ∈ gt)
    (hw : Cond.fieldLink own i (T k).1 (T k).2.1 (T k).2.2.1 ∈ gt ∨ ∃ h, Cond.fieldLinkNest own i (T k).1 (T k).2.1 (T k).2.2.1 h ∈ gN) (hdg : decode cc pc = .ok (.getfield i, 3)) {n : Int} (hr : aWr σ n ci)
    (K : Gw p l e R s m args below meth c Q D cA A ad0 M0 t0 c0 u0 nL (pc + 3) L ((aft ci k, σ.1 n.toNat k) :: S) σ) : Gw p l e R s m args below meth c Q D cA A ad0 M0 t0 c0 u0 nL pc L ((2, n) :: S) σ := by
  intro ad H locs ls cells slots hI
  obtain ⟨hx, hb, hml, hown, hts, hK, hA, hG⟩ := id hC
  obtain ⟨h0, h1, h2⟩ := hr
  show W _ _ _ _ _ _ _ _ _ _ _ _ _ _ _ (F0 m pc ls (cV ad (2, n) :: S.map (cV ad)))
  rw [cV_2 ad h0]
  have he : (cW cA ad σ)[n.toNat]? = some (ad n.toNat, .inr (ci, cF ad σ.1 n.toNat ci)) := by rw [cW_at h2, cE_obj h1 hci]
  have hv := cF_at (ad := ad) (M := σ.1) (n := n.toNat) (hN ▸ hk : k < afn ci)
  have ho : okV σ.2.1 (aft ci k, σ.1 n.toNat k) := (rng_obj h1 hci).mp (hI.1.2.2.2 n.toNat k (Or.inl h2))
  have K1 := K ad H locs ls cells slots (hI.stk (okV_cons ho (fun w hw => hI.2.2.1 w (List.mem_cons_of_mem _ hw))))
  rcases hw with hw | ⟨h, hw⟩
  · exact va_get hx hb hts hin hown hK hI.1.1 n.toNat he hc k hk (hts _ hw) (fun _ h => h) hv hdg K1
  · exact va_getN hx hb hts hin hown hK hI.1.1 n.toNat he hc k hk (va_Nw.use rfl (hG.1 _ hw)) (fun _ h => h) hv hdg K1
theorem k_putfield (hC : Cx p s m args c cc nL own D cA A ad0 M0) (i ci k : Nat) {C : String} {T : u_T} {N : Nat} (hc : vwCl[ci]? = some (C, T, N)) (hN : N = afn ci) (hk : k < N) (hci : ci < 50) (hin : ∀ w ∈ u_ws C T N, w ∈ gt)
    (ty0 : Nat → FieldType) (hty : ∀ k, k < N → parseFieldDescriptor (T k).2.2.1 = some (ty0 k)) (hnm : ∀ a, a < N → ∀ b, b < N → a ≠ b → (T a).2.1 ≠ (T b).2.1) (hz : tyOk (aft ci k) (ty0 k))
    (hw : (Cond.fieldLink own i (T k).1 (T k).2.1 (T k).2.2.1 ∈ gt ∧ ((T k).2.2.2 = false ∨ ((T k).2.2.2 = true ∧ meth.name = "<init>" ∧ (T k).1 = own))) ∨ ∃ h, Cond.fieldLinkNest own i (T k).1 (T k).2.1 (T k).2.2.1 h ∈ gN ∧ (T k).2.2.2 = false) (hdg : decode cc pc = .ok (.putfield i, 3)) {n v : Int} (hr : aWr σ n ci)
    (K : Gw p l e R s m args below meth c Q D cA A ad0 M0 t0 c0 u0 nL (pc + 3) L S (awr σ n.toNat k v)) : Gw p l e R s m args below meth c Q D cA A ad0 M0 t0 c0 u0 nL pc L ((aft ci k, v) :: (2, n) :: S) σ := by
  intro ad H locs ls cells slots hI
  obtain ⟨hx, hb, hml, hown, hts, hK, hA, hG⟩ := id hC
  obtain ⟨h0, h1, h2⟩ := hr
  show W _ _ _ _ _ _ _ _ _ _ _ _ _ _ _ (F0 m pc ls (cV ad (aft ci k, v) :: cV ad (2, n) :: S.map (cV ad)))
  rw [cV_2 ad h0]
  have he : (cW cA ad σ)[n.toNat]? = some (ad n.toNat, .inr (ci, cF ad σ.1 n.toNat ci)) := by rw [cW_at h2, cE_obj h1 hci]
  have hkf : k < afn ci := hN ▸ hk
  have hv : okV σ.2.1 (aft ci k, v) := hI.2.2.1 _ List.mem_cons_self
  have hfit := tyOk_fit (top := σ.2.1) (x := v) (ad := ad) hz
  have K1 : ∀ (H1 : Heap) (locs1 : List Loc), va_P D vwCl ((cW cA ad σ).set n.toNat (ad n.toNat, .inr (ci, (cF ad σ.1 n.toNat ci).set k (cV ad (aft ci k, v))))) H1 → va_D A ((cW cA ad σ).set n.toNat (ad n.toNat, .inr (ci, (cF ad σ.1 n.toNat ci).set k (cV ad (aft ci k, v))))) → va_S A s.heap H1 locs1 → W p l e R s m args below meth c H1 locs1 cells slots Q (F0 m (pc + 3) ls (S.map (cV ad))) := by
    intro H1 locs1 hP hD hS
    exact K ad H1 locs1 ls cells slots (hI.wr h2 (by rw [cE_obj h1 hci, cF_set hkf]) ((rng_obj h1 hci).mpr hv) hP hD hS (fun w hw => hI.2.2.1 w (List.mem_cons_of_mem _ (List.mem_cons_of_mem _ hw))))
  have hl : k < (cF ad σ.1 n.toNat ci).length := by rw [cF_len]; exact hkf
  rcases hw with ⟨hw, hf | ⟨hf, hi1, hi2⟩⟩ | ⟨h, hw, hf⟩
  · exact va_put hx hb hts hin ty0 hty hnm hown hK hI.1.1 hI.1.2.1 hI.1.2.2.1 n.toNat he hc k hk (hts _ hw) (fun _ h => h) hf (hty k hk) hfit.1 hfit.2 hl hdg K1
  · exact va_putF hx hb hts hin ty0 hty hnm hown hK hI.1.1 hI.1.2.1 hI.1.2.2.1 n.toNat he hc k hk (hts _ hw) (fun _ h => h) hf hi1 hi2 (hty k hk) hfit.1 hfit.2 hl hdg K1
  · exact va_putN hx hb hts hin ty0 hty hnm hown hK hI.1.1 hI.1.2.1 hI.1.2.2.1 n.toNat he hc k hk (va_Nw.use rfl (hG.1 _ hw)) (fun _ h => h) hf (hty k hk) hfit.1 hfit.2 hl hdg K1
theorem tl_0 (cA : Nat → ClassId) : (tyL cA)[0]? = some (cA 0, .int) := rfl
theorem tl_1 (cA : Nat → ClassId) : (tyL cA)[1]? = some (cA 1, .byte) := rfl
theorem tl_2 (cA : Nat → ClassId) : (tyL cA)[2]? = some (cA 2, .long) := rfl
theorem tl_3 (cA : Nat → ClassId) : (tyL cA)[3]? = some (cA 3, .object RX8) := rfl
theorem k_iaload (hC : Cx p s m args c cc nL own D cA A ad0 M0) (hdg : decode cc pc = .ok (.iaload, 1)) {n i : Int} (hr : aRd σ n 100) (hi : 0 ≤ i) (hil : i.toNat < alen σ n.toNat)
    (K : Gw p l e R s m args below meth c Q D cA A ad0 M0 t0 c0 u0 nL (pc + 1) L ((0, σ.1 n.toNat i.toNat) :: S) σ) : Gw p l e R s m args below meth c Q D cA A ad0 M0 t0 c0 u0 nL pc L ((0, i) :: (2, n) :: S) σ := by
  intro ad H locs ls cells slots hI
  obtain ⟨hx, hb, hml, hown, hts, hK, hA, hG⟩ := id hC
  obtain ⟨h0, h1, h2⟩ := hr
  show W _ _ _ _ _ _ _ _ _ _ _ _ _ _ _ (F0 m pc ls (.int (Int32.ofInt i) :: cV ad (2, n) :: S.map (cV ad)))
  rw [cV_2 ad h0]
  have hii : aIn i := okV_int (hI.2.2.1 _ List.mem_cons_self)
  have hS : ∀ w ∈ S, okV σ.2.1 w := fun w hw => hI.2.2.1 w (List.mem_cons_of_mem _ (List.mem_cons_of_mem _ hw))
  have hrd : n.toNat < σ.2.1 ∨ 1000000 ≤ n.toNat := by omega
  have ho : okV σ.2.1 (0, σ.1 n.toNat i.toNat) := okV_i ((rng_int h1).mp (hI.1.2.2.2 n.toNat i.toNat hrd))
  have K1 := K ad H locs ls cells slots (hI.stk (okV_cons ho hS))
  by_cases h3 : n.toNat < σ.2.1
  · have hne : n.toNat ≠ 1000000 := by have := hI.2.2.2.2.2.2.2.2; omega
    have hil2 : i.toNat < (ash n.toNat).2 := by rw [alen, if_neg hne] at hil; exact hil
    refine va_iald hx hb hK hI.1.1 n.toNat 0 (by rw [cW_at h3, cE_int h1]) (tl_0 cA) (i32_in hii hi hil2) hdg ?_
    rw [i32_clamp hii hi]
    exact K1
  · have h4 : 1000000 ≤ n.toNat := by omega
    have e1 := hI.2.2.2.1 n.toNat (Or.inr h4)
    have e2 := hI.2.2.2.2.2.1 n.toNat i.toNat h4
    rcases (ash_big h4 (by rw [h1]; decide)).1 with e5 | e5
    · rw [e5] at e1 e2 K1 hil ⊢
      have hX := hG.2.2.2.2.2.1
      have hil2 : i.toNat < (M0 1000000 5000).toNat := by
        rw [alen, if_pos rfl, hI.2.2.2.2.2.1 1000000 5000 (by decide)] at hil; exact hil
      rw [e1]
      refine va_sld hx hb hX (Array.getElem?_eq_some_iff.mp hX.choose_spec.1).1 hG.2.2.2.2.2.2.1 hI.1.2.2.1 (i32_in hii hi hil2) hdg ?_
      rw [i32_clamp hii hi, ← e2]
      exact K1
    · rw [e5] at e1 e2 K1 hil ⊢
      have hX := hG.2.2.2.1
      have hil2 : i.toNat < 8 := hil
      rw [e1]
      refine va_ti hx hb hX hI.1.2.2.1 (i32_in hii hi hil2) rfl hdg ?_
      rw [i32_clamp hii hi, ← e2]
      exact K1
theorem rd_in {n : Int} {kind : Nat} (hr : aRd σ n kind) (hk : kind = 101 ∨ kind = 102 ∨ kind = 103) : n.toNat < σ.2.1 := by
  obtain ⟨h0, h1, h2⟩ := hr
  rcases h2 with h2 | h2
  · exact h2
  · have := (ash_big (n := n.toNat) (by omega) (by omega)).2
    omega
theorem k_baload (hC : Cx p s m args c cc nL own D cA A ad0 M0) (hdg : decode cc pc = .ok (.baload, 1)) {n i : Int} (hr : aRd σ n 101) (hi : 0 ≤ i) (hil : i.toNat < alen σ n.toNat)
    (K : Gw p l e R s m args below meth c Q D cA A ad0 M0 t0 c0 u0 nL (pc + 1) L ((0, σ.1 n.toNat i.toNat) :: S) σ) : Gw p l e R s m args below meth c Q D cA A ad0 M0 t0 c0 u0 nL pc L ((0, i) :: (2, n) :: S) σ := by
  intro ad H locs ls cells slots hI
  obtain ⟨hx, hb, hml, hown, hts, hK, hA, hG⟩ := id hC
  have h3 := rd_in hr (Or.inl rfl)
  obtain ⟨h0, h1, h2⟩ := hr
  show W _ _ _ _ _ _ _ _ _ _ _ _ _ _ _ (F0 m pc ls (.int (Int32.ofInt i) :: cV ad (2, n) :: S.map (cV ad)))
  rw [cV_2 ad h0]
  have hii : aIn i := okV_int (hI.2.2.1 _ List.mem_cons_self)
  have hS : ∀ w ∈ S, okV σ.2.1 w := fun w hw => hI.2.2.1 w (List.mem_cons_of_mem _ (List.mem_cons_of_mem _ hw))
  have hq := (rng_byte h1).mp (hI.1.2.2.2 n.toNat i.toNat (Or.inl h3))
  have ho : okV σ.2.1 (0, σ.1 n.toNat i.toNat) := okV_i ⟨by omega, by omega⟩
  have hne : n.toNat ≠ 1000000 := by have := hI.2.2.2.2.2.2.2.2; omega
  have hil2 : i.toNat < (ash n.toNat).2 := by rw [alen, if_neg hne] at hil; exact hil
  refine va_bald hx hb hK hI.1.1 n.toNat 1 (by rw [cW_at h3, cE_byte h1]) (tl_1 cA) (i32_in hii hi hil2) hdg ?_
  rw [i32_clamp hii hi]
  exact K ad H locs ls cells slots (hI.stk (okV_cons ho hS))
theorem k_laload (hC : Cx p s m args c cc nL own D cA A ad0 M0) (hdg : decode cc pc = .ok (.laload, 1)) {n i : Int} (hr : aRd σ n 102) (hi : 0 ≤ i) (hil : i.toNat < alen σ n.toNat)
    (K : Gw p l e R s m args below meth c Q D cA A ad0 M0 t0 c0 u0 nL (pc + 1) L ((1, σ.1 n.toNat i.toNat) :: S) σ) : Gw p l e R s m args below meth c Q D cA A ad0 M0 t0 c0 u0 nL pc L ((0, i) :: (2, n) :: S) σ := by
  intro ad H locs ls cells slots hI
  obtain ⟨hx, hb, hml, hown, hts, hK, hA, hG⟩ := id hC
  have h3 := rd_in hr (Or.inr (Or.inl rfl))
  obtain ⟨h0, h1, h2⟩ := hr
  show W _ _ _ _ _ _ _ _ _ _ _ _ _ _ _ (F0 m pc ls (.int (Int32.ofInt i) :: cV ad (2, n) :: S.map (cV ad)))
  rw [cV_2 ad h0]
  have hii : aIn i := okV_int (hI.2.2.1 _ List.mem_cons_self)
  have hS : ∀ w ∈ S, okV σ.2.1 w := fun w hw => hI.2.2.1 w (List.mem_cons_of_mem _ (List.mem_cons_of_mem _ hw))
  have ho : okV σ.2.1 (1, σ.1 n.toNat i.toNat) := okV_l ((rng_long h1).mp (hI.1.2.2.2 n.toNat i.toNat (Or.inl h3)))
  have hne : n.toNat ≠ 1000000 := by have := hI.2.2.2.2.2.2.2.2; omega
  have hil2 : i.toNat < (ash n.toNat).2 := by rw [alen, if_neg hne] at hil; exact hil
  refine va_lald hx hb hK hI.1.1 n.toNat 2 (by rw [cW_at h3, cE_long h1]) (tl_2 cA) (i32_in hii hi hil2) hdg ?_
  rw [i32_clamp hii hi]
  exact K ad H locs ls cells slots (hI.stk (okV_cons ho hS))
theorem k_aaload (hC : Cx p s m args c cc nL own D cA A ad0 M0) (hdg : decode cc pc = .ok (.aaload, 1)) {n i : Int} (hr : aRd σ n 103) (hi : 0 ≤ i) (hil : i.toNat < alen σ n.toNat)
    (K : Gw p l e R s m args below meth c Q D cA A ad0 M0 t0 c0 u0 nL (pc + 1) L ((2, σ.1 n.toNat i.toNat) :: S) σ) : Gw p l e R s m args below meth c Q D cA A ad0 M0 t0 c0 u0 nL pc L ((0, i) :: (2, n) :: S) σ := by
  intro ad H locs ls cells slots hI
  obtain ⟨hx, hb, hml, hown, hts, hK, hA, hG⟩ := id hC
  have h3 := rd_in hr (Or.inr (Or.inr rfl))
  obtain ⟨h0, h1, h2⟩ := hr
  show W _ _ _ _ _ _ _ _ _ _ _ _ _ _ _ (F0 m pc ls (.int (Int32.ofInt i) :: cV ad (2, n) :: S.map (cV ad)))
  rw [cV_2 ad h0]
  have hii : aIn i := okV_int (hI.2.2.1 _ List.mem_cons_self)
  have hS : ∀ w ∈ S, okV σ.2.1 w := fun w hw => hI.2.2.1 w (List.mem_cons_of_mem _ (List.mem_cons_of_mem _ hw))
  have ho : okV σ.2.1 (2, σ.1 n.toNat i.toNat) := (rng_row h1).mp (hI.1.2.2.2 n.toNat i.toNat (Or.inl h3))
  have hne : n.toNat ≠ 1000000 := by have := hI.2.2.2.2.2.2.2.2; omega
  have hil2 : i.toNat < (ash n.toNat).2 := by rw [alen, if_neg hne] at hil; exact hil
  refine va_aldq hx hb hK hI.1.1 n.toNat 3 (by rw [cW_at h3, cE_row h1]) (tl_3 cA) (i32_in hii hi hil2) hdg ?_
  rw [i32_clamp hii hi]
  have e1 : va_rf (if σ.1 n.toNat i.toNat < 0 then none else some (ad (σ.1 n.toNat i.toNat).toNat)) = cV ad (2, σ.1 n.toNat i.toNat) := by
    by_cases hx : σ.1 n.toNat i.toNat < 0
    · rw [if_pos hx, cV_n ad hx]; rfl
    · rw [if_neg hx, cV_2 ad (by omega)]; rfl
  rw [e1]
  exact K ad H locs ls cells slots (hI.stk (okV_cons ho hS))
theorem upd_fun (M : aM) (n i : Nat) (v : Int) : upd (fun j => Int32.ofInt (M n j)) i (Int32.ofInt v) = fun j => Int32.ofInt (aup M n i v n j) := by
  funext j
  unfold upd aup
  by_cases h : j = i <;> simp [h]
theorem k_iastore (hC : Cx p s m args c cc nL own D cA A ad0 M0) (hdg : decode cc pc = .ok (.iastore, 1)) {n i v : Int} (hr : aWr σ n 100) (hi : 0 ≤ i) (hil : i.toNat < (ash n.toNat).2)
    (K : Gw p l e R s m args below meth c Q D cA A ad0 M0 t0 c0 u0 nL (pc + 1) L S (awr σ n.toNat i.toNat v)) : Gw p l e R s m args below meth c Q D cA A ad0 M0 t0 c0 u0 nL pc L ((0, v) :: (0, i) :: (2, n) :: S) σ := by
  intro ad H locs ls cells slots hI
  obtain ⟨hx, hb, hml, hown, hts, hK, hA, hG⟩ := id hC
  obtain ⟨h0, h1, h3⟩ := hr
  show W _ _ _ _ _ _ _ _ _ _ _ _ _ _ _ (F0 m pc ls (.int (Int32.ofInt v) :: .int (Int32.ofInt i) :: cV ad (2, n) :: S.map (cV ad)))
  rw [cV_2 ad h0]
  have hvv : aIn v := okV_int (hI.2.2.1 _ List.mem_cons_self)
  have hii : aIn i := okV_int (hI.2.2.1 _ (List.mem_cons_of_mem _ List.mem_cons_self))
  refine va_iast hx hb hK hI.1.1 hI.1.2.1 hI.1.2.2.1 n.toNat 0 (by rw [cW_at h3, cE_int h1]) (tl_0 cA) (i32_in hii hi hil) hdg (fun H1 locs1 hP hD hS => ?_)
  rw [i32_clamp hii hi, upd_fun] at hP hD
  exact K ad H1 locs1 ls cells slots (hI.wr h3 (cE_int h1) ((rng_int h1).mpr hvv) hP hD hS (fun w hw => hI.2.2.1 w (List.mem_cons_of_mem _ (List.mem_cons_of_mem _ (List.mem_cons_of_mem _ hw)))))
theorem i32_nar {v : Int} (h1 : -128 ≤ v) (h2 : v < 128) : vp_nar .byte (Int32.ofInt v) = Int32.ofInt v := by
  rw [vp_nar_byte, ← i32_of (Int32.ofInt v).toInt8.toInt32]
  congr 1
  rw [Int8.toInt_toInt32, Int32.toInt_toInt8, i32_toInt ⟨by omega, by omega⟩, Int.bmod_eq_of_le (by omega) (by omega)]
theorem k_bastore (hC : Cx p s m args c cc nL own D cA A ad0 M0) (hdg : decode cc pc = .ok (.bastore, 1)) {n i v : Int} (hr : aWr σ n 101) (hi : 0 ≤ i) (hil : i.toNat < (ash n.toNat).2) (hv1 : -128 ≤ v) (hv2 : v < 128)
    (K : Gw p l e R s m args below meth c Q D cA A ad0 M0 t0 c0 u0 nL (pc + 1) L S (awr σ n.toNat i.toNat v)) : Gw p l e R s m args below meth c Q D cA A ad0 M0 t0 c0 u0 nL pc L ((0, v) :: (0, i) :: (2, n) :: S) σ := by
  intro ad H locs ls cells slots hI
  obtain ⟨hx, hb, hml, hown, hts, hK, hA, hG⟩ := id hC
  obtain ⟨h0, h1, h3⟩ := hr
  show W _ _ _ _ _ _ _ _ _ _ _ _ _ _ _ (F0 m pc ls (.int (Int32.ofInt v) :: .int (Int32.ofInt i) :: cV ad (2, n) :: S.map (cV ad)))
  rw [cV_2 ad h0]
  have hii : aIn i := okV_int (hI.2.2.1 _ (List.mem_cons_of_mem _ List.mem_cons_self))
  refine va_bast hx hb hK hI.1.1 hI.1.2.1 hI.1.2.2.1 n.toNat 1 (by rw [cW_at h3, cE_byte h1]) (tl_1 cA) (i32_in hii hi hil) hdg (fun H1 locs1 hP hD hS => ?_)
  rw [i32_clamp hii hi, i32_nar hv1 hv2, upd_fun] at hP hD
  exact K ad H1 locs1 ls cells slots (hI.wr h3 (cE_byte h1) ((rng_byte h1).mpr ⟨hv1, hv2⟩) hP hD hS (fun w hw => hI.2.2.1 w (List.mem_cons_of_mem _ (List.mem_cons_of_mem _ (List.mem_cons_of_mem _ hw)))))
theorem updL_fun (M : aM) (n i : Nat) (v : Int) : vp_updL (fun j => Int64.ofInt (M n j)) i (Int64.ofInt v) = fun j => Int64.ofInt (aup M n i v n j) := by
  funext j
  unfold vp_updL aup
  by_cases h : j = i <;> simp [h]
theorem k_lastore (hC : Cx p s m args c cc nL own D cA A ad0 M0) (hdg : decode cc pc = .ok (.lastore, 1)) {n i v : Int} (hr : aWr σ n 102) (hi : 0 ≤ i) (hil : i.toNat < (ash n.toNat).2)
    (K : Gw p l e R s m args below meth c Q D cA A ad0 M0 t0 c0 u0 nL (pc + 1) L S (awr σ n.toNat i.toNat v)) : Gw p l e R s m args below meth c Q D cA A ad0 M0 t0 c0 u0 nL pc L ((1, v) :: (0, i) :: (2, n) :: S) σ := by
  intro ad H locs ls cells slots hI
  obtain ⟨hx, hb, hml, hown, hts, hK, hA, hG⟩ := id hC
  obtain ⟨h0, h1, h3⟩ := hr
  show W _ _ _ _ _ _ _ _ _ _ _ _ _ _ _ (F0 m pc ls (.long (Int64.ofInt v) :: .int (Int32.ofInt i) :: cV ad (2, n) :: S.map (cV ad)))
  rw [cV_2 ad h0]
  have hvv : aInL v := okV_long (hI.2.2.1 _ List.mem_cons_self)
  have hii : aIn i := okV_int (hI.2.2.1 _ (List.mem_cons_of_mem _ List.mem_cons_self))
  refine va_last hx hb hK hI.1.1 hI.1.2.1 hI.1.2.2.1 n.toNat 2 (by rw [cW_at h3, cE_long h1]) (tl_2 cA) (i32_in hii hi hil) hdg (fun H1 locs1 hP hD hS => ?_)
  rw [i32_clamp hii hi, updL_fun] at hP hD
  exact K ad H1 locs1 ls cells slots (hI.wr h3 (cE_long h1) ((rng_long h1).mpr hvv) hP hD hS (fun w hw => hI.2.2.1 w (List.mem_cons_of_mem _ (List.mem_cons_of_mem _ (List.mem_cons_of_mem _ hw)))))
theorem updQ_fun (ad : Nat → Nat) (M : aM) (n i : Nat) {v : Int} (hv : 0 ≤ v) : va_up (fun j => if M n j < 0 then none else some (ad (M n j).toNat)) i (some (ad v.toNat)) = fun j => if aup M n i v n j < 0 then none else some (ad (aup M n i v n j).toNat) := by
  funext j
  unfold va_up aup
  by_cases h : j = i
  · have : ¬ v < 0 := by omega
    simp [h, this]
  · simp [h]
theorem k_aastore (hC : Cx p s m args c cc nL own D cA A ad0 M0) (hdg : decode cc pc = .ok (.aastore, 1)) {n i v : Int} (hr : aWr σ n 103) (hi : 0 ≤ i) (hil : i.toNat < (ash n.toNat).2) (hv : aWr σ v 8)
    (K : Gw p l e R s m args below meth c Q D cA A ad0 M0 t0 c0 u0 nL (pc + 1) L S (awr σ n.toNat i.toNat v)) : Gw p l e R s m args below meth c Q D cA A ad0 M0 t0 c0 u0 nL pc L ((2, v) :: (0, i) :: (2, n) :: S) σ := by
  intro ad H locs ls cells slots hI
  obtain ⟨hx, hb, hml, hown, hts, hK, hA, hG⟩ := id hC
  obtain ⟨h0, h1, h3⟩ := hr
  obtain ⟨v0, v1, v3⟩ := hv
  show W _ _ _ _ _ _ _ _ _ _ _ _ _ _ _ (F0 m pc ls (cV ad (2, v) :: .int (Int32.ofInt i) :: cV ad (2, n) :: S.map (cV ad)))
  rw [cV_2 ad h0, cV_2 ad v0]
  have hvv : okV σ.2.1 (2, v) := hI.2.2.1 _ List.mem_cons_self
  have hii : aIn i := okV_int (hI.2.2.1 _ (List.mem_cons_of_mem _ List.mem_cons_self))
  refine va_astq (r := (RX8, TX8, 5)) hx hb hK hI.1.1 hI.1.2.1 hI.1.2.2.1 n.toNat 3 v.toNat 8 (by rw [cW_at h3, cE_row h1]) (tl_3 cA) (by rw [cW_at v3, cE_obj v1 (by decide)]) rfl (i32_in hii hi hil) hdg (fun H1 locs1 hP hD hS => ?_)
  rw [i32_clamp hii hi, updQ_fun ad σ.1 n.toNat i.toNat v0] at hP hD
  exact K ad H1 locs1 ls cells slots (hI.wr h3 (cE_row h1) ((rng_row h1).mpr hvv) hP hD hS (fun w hw => hI.2.2.1 w (List.mem_cons_of_mem _ (List.mem_cons_of_mem _ (List.mem_cons_of_mem _ hw)))))
end Mem

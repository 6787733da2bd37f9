/-! ===== the whole: what the pure machine comes to, the machine comes to ===== -/
/-- where a run of the pure machine ends: at a return, or where something is thrown -/
def Fin0 (r : Option aV) (σ1 : aS) (o : aO) (S : List aV) (σf : aS) : Prop := (akd o = 3 ∧ art o S = some r ∧ σf = σ1) ∨ (akd o = 4 ∧ r = some (7, 0) ∧ σ1 = (σf.1, σf.2.1, σf.2.2.1 + 1, σf.2.2.2 + 6))
def Snd (B : Nat → Nat → Option (List aO)) (lj : Nat) (l : Launch) (n : Nat) : Prop := ∀ (d j pc : Nat) (ops : List aO) (L S : List aV) (σ : aS) (r : Option aV) (σ1 : aS), exec B mL mK lj n d j pc ops L S σ = some (r, σ1) → okOps j pc ops →
  ∀ (p : Program) (e : Env) (R : Room) (s : State) (m : MethodId) (args : Array Value) (below : List Frame) (meth : Method) (c : Code) (Q : State → Prop) (D : va_G) (cA : Nat → ClassId) (A : Nat → Prop) (ad0 : Nat → Nat) (M0 : aM) (t0 c0 u0 : Nat),
  Cx p s m args c (mC j) (mL j) (mY j).cls D cA A ad0 M0 → (mY j).name = meth.name → d ≤ R.frames → 36 * d ≤ R.locals → σ1.2.2.1 ≤ c0 + R.cells → σ1.2.2.2 ≤ u0 + R.slots →
  (∀ (pc1 : Nat) (o1 : aO) (L1 S1 : List aV) (σf : aS), Fin0 r σ1 o1 S1 σf → (3 ≤ d ∧ S1.length = 0) ∨ akd o1 = 3 → okT j pc1 o1 → decode (mC j) pc1 = .ok (o1.1, o1.2.1) → okO j o1 → Gw p l e R s m args below meth c Q D cA A ad0 M0 t0 c0 u0 (mL j) pc1 L1 S1 σf) →
  Gw p l e R s m args below meth c Q D cA A ad0 M0 t0 c0 u0 (mL j) pc L S σ
def PreA (D : va_G) (cA : Nat → ClassId) (ad : Nat → Nat) (σ : aS) (sz : Nat) (U : State) : Prop := U.heap.size = sz ∧ va_P D vwCl (cW cA ad σ) U.heap ∧ va_K D vwCl (tyL cA) U ∧ va_D (fun _ => True) (cW cA ad σ) ∧ Gl ad (va_A (cW cA ad σ) sz) σ.1 U U.heap
def PostA (D : va_G) (cA : Nat → ClassId) (ad : Nat → Nat) (σ : aS) (r : Option aV) (σ1 : aS) (A1 : Nat → Prop) (ad1 : Nat → Nat) (t : State) : Prop := va_P D vwCl (cW cA ad1 σ1) t.heap ∧ va_K D vwCl (tyL cA) t ∧ va_D A1 (cW cA ad1 σ1) ∧ (∀ k, (k < σ.2.1 ∨ 1000000 ≤ k) → ad1 k = ad k) ∧ okM σ1 ∧ (∀ v, r = some v → okV σ1.2.1 v) ∧ σ.2.1 ≤ σ1.2.1 ∧ (∀ n k, 1000000 ≤ n → σ1.1 n k = σ.1 n k) ∧ σ1.2.1 ≤ 1000000
def QcA (D : va_G) (cA : Nat → ClassId) (ad : Nat → Nat) (σ : aS) (r : Option aV) (σ1 : aS) (A1 : Nat → Prop) : Array Value → State → Outcome → State → Prop := fun _ st oc t => (∃ ad1, oc = .returned (r.map (cV ad1)) ∧ PostA D cA ad σ r σ1 A1 ad1 t) ∧ va_F A1 st t
theorem Gl.same {ad : Nat → Nat} {A : Nat → Prop} {M : aM} {s U : State} (hv : U.vm = s.vm) (hh : U.heap = s.heap) (h : Gl ad A M s s.heap) : Gl ad A M U U.heap := Gl.to (s := s) (U := U) (H := s.heap) (locs := []) h (by rw [hv]; exact State.WarmedH.refl s) hh va_S.rf (fun _ _ h => h) (fun _ _ => rfl) (fun _ _ _ => rfl)
theorem PreA.blind {D : va_G} {cA : Nat → ClassId} {ad : Nat → Nat} {σ : aS} {sz : Nat} {av : List Value} : FrameBlind (va_Pc av (PreA D cA ad σ sz)) := fun a U g mk q => ⟨q.1, q.2.1, q.2.2.1, va_K.moved (u := U) (U := U.calling g mk a) (Vm.Alike.refl U.vm) q.2.2.2.1, q.2.2.2.2.1, Gl.same (s := U) (U := U.calling g mk a) rfl rfl q.2.2.2.2.2⟩
section Ends
variable {p : Program} {l : Launch} {e : Env} {R : Room} {s : State} {m : MethodId} {args : Array Value} {below : List Frame} {meth : Method} {c : Code} {D : va_G} {cA : Nat → ClassId} {j pc : Nat}
/-- a method's end -/
theorem fin_sound {ad0 : Nat → Nat} {σ0 σ1 : aS} {r : Option aV} {o : aO} {L S : List aV} {A : Nat → Prop} (hC : Cx p s m args c (mC j) (mL j) (mY j).cls D cA A ad0 σ0.1) (hr : meth.sig.returnType = mR j) (hlocks : meth.locks = false) (hdg : decode (mC j) pc = .ok (o.1, o.2.1)) (hok : okO j o) (h : art o S = some r) : Gw p l e R s m args below meth c (MQ below (QcA D cA ad0 σ0 r σ1 A) args s (σ1.2.2.1 - σ0.2.2.1) (σ1.2.2.2 - σ0.2.2.2) A) D cA A ad0 σ0.1 σ0.2.1 σ0.2.2.1 σ0.2.2.2 (mL j) pc L S σ1 := by
  intro ad H locs ls cells slots hI
  obtain ⟨hx, hb, hml, hown, hts, hK, hA, hG⟩ := id hC
  obtain ⟨⟨hP, hD, hS, hM⟩, hL, hSt, had, htop, hro, hce, hse, hbig⟩ := id hI
  have ec : cells = σ1.2.2.1 - σ0.2.2.1 := by omega
  have es : slots = σ1.2.2.2 - σ0.2.2.2 := by omega
  have hpost : ∀ t : State, t.heap = H → s.WarmedH t.vm → (∀ v, r = some v → okV σ1.2.1 v) → QcA D cA ad0 σ0 r σ1 A args s (.returned (r.map (cV ad))) t := by
    intro t ht hW hrv
    exact ⟨⟨ad, rfl, by rw [ht]; exact hP, va_K.moved hW.alike hK, hD, had, hM, hrv, htop, hro, hbig⟩, hS.F ht⟩
  rw [← ec, ← es]
  obtain ⟨ins, ln, ra, rb, rc⟩ := o
  obtain ⟨hln, hw⟩ := hok
  cases ins with
  | ireturn =>
    have hln : ln = 1 := hln
    subst hln
    simp only [art] at h
    split at h
    · split at h
      · rename_i v hz; cases h
        have hv := hSt (0, v) List.mem_cons_self
        have hw : (ra = 0 ∧ mR j = some .int) ∨ (ra = 1 ∧ mR j = some .boolean) := hw
        rcases hw with ⟨w1, w2⟩ | ⟨w1, w2⟩
        · exact W.iret hx hb (by rw [hr]; exact w2) (fun t ht hW => hpost t ht hW (fun v h => by cases h; exact hv)) hS.2.2 hdg
        · refine W.zret (ty := .boolean) hx hb (by rw [hr]; exact w2) ?_ (fun t ht hW => hpost t ht hW (fun v h => by cases h; exact hv)) hS.2.2 hdg
          rcases (by omega : v = 0 ∨ v = 1) with e | e <;> subst e <;> rfl
      · cases h
    · cases h
  | lreturn =>
    have hln : ln = 1 := hln
    subst hln
    simp only [art] at h
    split at h
    · rename_i v; cases h
      have hv := hSt (1, v) List.mem_cons_self
      exact W.lret hx hb (by rw [hr]; exact hw) (fun t ht hW => hpost t ht hW (fun v h => by cases h; exact hv)) hS.2.2 hdg
    · cases h
  | areturn =>
    have hln : ln = 1 := hln
    subst hln
    simp only [art] at h
    split at h
    · split at h
      · rename_i v h0; cases h
        have hv := hSt (2, v) List.mem_cons_self
        obtain ⟨q, hw⟩ := hw
        exact W.aret (rt := .object q) hx hb (by rw [hr]; exact hw) (Or.inl ⟨q, rfl⟩) (Or.inr ⟨_, cV_2 ad h0⟩) (fun t ht hW => hpost t ht hW (fun v h => by cases h; exact hv)) hS.2.2 hdg
      · cases h
    · cases h
  | return_ =>
    have hln : ln = 1 := hln
    subst hln
    simp only [art] at h
    split at h
    · cases h
      exact W.vret hx hb (by rw [hr]; exact hw) (fun t ht hW => hpost t ht hW (fun v h => by cases h)) hS.2.2 hdg
    · cases h
  | _ => simp only [art] at h; cases h
/-- a method's contract, out of its run -/
theorem met_of {B : Nat → Nat → Option (List aO)} {lj n d f : Nat} {aa : List aV} {σ : aS} {r : Option aV} {σ1 : aS} (hSn : Snd B lj l n) (h : exec B mL mK lj n d f 0 [] (aent (mL f) aa) [] σ = some (r, σ1)) (h7 : ∀ x, r ≠ some (7, x)) (hok : okMt f) (hfl : (afl aa).length ≤ mL f) (haa : ∀ v ∈ aa, okV σ.2.1 v) (hM : okM σ) (hbig : σ.2.1 ≤ 1000000) (ad : Nat → Nat) (sz : Nat) :
    Met l (mY f) (wJ (mY f) (mC f) (mL f) (mR f)) { frames := d, cells := σ1.2.2.1 - σ.2.2.1, slots := σ1.2.2.2 - σ.2.2.2, locals := 36 * d } (va_Pc (aa.map (cV ad)) (PreA D cA ad σ sz)) (QcA D cA ad σ r σ1 (va_A (cW cA ad σ) sz)) (σ1.2.2.1 - σ.2.2.1) (σ1.2.2.2 - σ.2.2.2) (va_A (cW cA ad σ) sz) := by
  refine Met.ofW (cc := mC f) (maxL := mL f) (ret := mR f) hok.2.2.1 rfl ?_
  intro p e s m args below meth c s₁ Bd hml hv
  obtain ⟨rfl, hsz, hP, hK, hD, hG⟩ := hv
  subst hsz
  have hts := fun w (h : w ∈ gt) => atoms_spec (ws := wJ (mY f) (mC f) (mL f) (mR f)) Bd.pre w (List.mem_cons_of_mem _ h)
  have hown : s.vm.findClass (mY f).cls = some m.cls := findClass_of_methodNamed Bd.named
  have hnm : meth.name = (mY f).name := (name_of_methodNamed Bd.named Bd.method).1
  have hmono := exec_mono B mL mK lj n _ _ _ _ _ _ _ _ _ h
  have hC : Cx p s m (aa.map (cV ad)).toArray c (mC f) (mL f) (mY f).cls D cA (va_A (cW cA ad σ) s.heap.size) ad σ.1 := ⟨Bd.exec, Bd.bytes, hml, hown, hts, hK, fun q hq => Or.inr hq, hG⟩
  rw [lg_entry_eq]
  have G := hSn d f 0 [] (aent (mL f) aa) [] σ r σ1 h trivial p e (headSpec (wJ (mY f) (mC f) (mL f) (mR f)) { frames := d, cells := σ1.2.2.1 - σ.2.2.1, slots := σ1.2.2.2 - σ.2.2.2, locals := 36 * d }).room s m _ below meth c (MQ below (QcA D cA ad σ r σ1 (va_A (cW cA ad σ) s.heap.size)) (aa.map (cV ad)).toArray s (σ1.2.2.1 - σ.2.2.1) (σ1.2.2.2 - σ.2.2.2) (va_A (cW cA ad σ) s.heap.size)) D cA (va_A (cW cA ad σ) s.heap.size) ad σ.1 σ.2.1 σ.2.2.1 σ.2.2.2 hC hnm.symm (Nat.le_refl _) (Nat.le_refl _)
    (by show σ1.2.2.1 ≤ σ.2.2.1 + (σ1.2.2.1 - σ.2.2.1); omega) (by show σ1.2.2.2 ≤ σ.2.2.2 + (σ1.2.2.2 - σ.2.2.2); omega)
    (fun pc1 o1 L1 S1 σf hfin _ _ hdg hok1 => by
      rcases hfin with ⟨-, h1, rfl⟩ | ⟨-, h1, -⟩
      · exact fin_sound hC Bd.returns Bd.notSynchronized hdg hok1 h1
      · exact absurd h1 (h7 0))
  exact G ad s.heap [] _ 0 0 ⟨⟨hP, hD.self, va_S.rf, hM⟩, IL_entry haa hfl, (fun v hv => absurd hv List.not_mem_nil), fun _ _ => rfl, Nat.le_refl _, fun _ _ _ => rfl, Nat.zero_add _, Nat.zero_add _, hbig⟩
/-- behind a call -/
theorem call_go {H : Heap} {locs : List Loc} {cells slots mc ms : Nat} {Q : State → Prop} {A : Nat → Prop} {ad0 ad : Nat → Nat} {M0 : aM} {t0 c0 u0 nL : Nat} {ls : Array Slot} {L S S1 : List aV} {σ σ1 : aS} {r : Option aV} {st0 : List Value} {a : Array Value} (hA : ∀ q, s.heap.size ≤ q → A q)
    (hI : Iv D cA A s ad0 M0 t0 c0 u0 nL ad L S σ H locs ls cells slots) (hS1 : ∀ v ∈ S1, okV σ.2.1 v)
    (hr : va_Run p l e R s m args below meth c H locs cells slots mc ms (F0 m pc ls st0) (S1.map (cV ad)) (QcA D cA ad σ r σ1 (va_A (cW cA ad σ) H.size) a) (va_A (cW cA ad σ) H.size)) (hmc : σ1.2.2.1 = σ.2.2.1 + mc) (hms : σ1.2.2.2 = σ.2.2.2 + ms)
    (K : Gw p l e R s m args below meth c Q D cA A ad0 M0 t0 c0 u0 nL (pc + 3) L (r.toList ++ S1) σ1) : W p l e R s m args below meth c H locs cells slots Q (F0 m pc ls st0) := by
  intro T hT X
  obtain ⟨v, st₀, t, T', Lx, h0, X', hL, e1, e2, ⟨⟨ad1, hv, hP1, hK1, hD1, hag, hM1, hrv, htp, hro1, hbig1⟩, hz, hk⟩, st⟩ := hr T hT X
  cases hv
  rw [h0] at hz hk
  obtain ⟨⟨hP, hD, hS, hM⟩, ⟨l1, l2, l3, l4⟩, hSt, had, htop, hro, hce, hse, hbig⟩ := id hI
  have hfr : ∀ q, va_A (cW cA ad σ) H.size q → A q := by
    rintro q (⟨k, e, hq⟩ | hq)
    · exact hD.2 k (q, e) hq
    · exact hA q (Nat.le_trans hS.1 hq)
  have hext : ∀ v : aV, okV σ.2.1 v → cV ad1 v = cV ad v := fun v hv => cV_ext hag hv
  have hI1 : Iv D cA A s ad0 M0 t0 c0 u0 nL ad1 L (r.toList ++ S1) σ1 t.heap (locs ++ Lx) ls (cells + mc) (slots + ms) := by
    refine ⟨⟨hP1, hD1.weaken (fun k q _ h => hfr q.1 h), ⟨Nat.le_trans hS.1 hz, fun q h1 h2 => ?_, fun q hq => ?_⟩, hM1⟩, ⟨l1, l2, l3, fun i v hi => ?_⟩, fun v hv => ?_, fun k hk2 => ?_, Nat.le_trans htop htp, fun n k hn => (hro1 n k hn).trans (hro n k hn), by omega, by omega, hbig1⟩
    · rw [hk q (Nat.lt_of_lt_of_le h1 hS.1) (fun z => h2 (hfr q z))]; exact hS.2.1 q h1 h2
    · rcases List.mem_append.mp hq with h | h
      · exact hS.2.2 q h
      · exact hfr _ (hL q h)
    · rcases l4 i v hi with h9 | ⟨h1, h2⟩
      · exact Or.inl h9
      · exact Or.inr ⟨okV_mono htp h1, by rw [hext v h1]; exact h2⟩
    · rcases List.mem_append.mp hv with h | h
      · exact hrv v (by cases r with | none => cases h | some w => rw [Option.toList_some, List.mem_singleton] at h; rw [h])
      · exact okV_mono htp (hS1 v h)
    · rw [hag k (by omega)]; exact had k hk2
  have e3 : (r.toList ++ S1).map (cV ad1) = (r.map (cV ad1)).toList ++ S1.map (cV ad) := by
    rw [List.map_append, List.map_congr_left (fun v hv => hext v (hS1 v hv))]
    cases r <;> rfl
  have K1 := K ad1 t.heap (locs ++ Lx) ls (cells + mc) (slots + ms) hI1
  rw [e3] at K1
  obtain ⟨t2, a1, b1⟩ := K1 T' e1 X'
  exact ⟨t2, st t2 a1, b1⟩
end Ends

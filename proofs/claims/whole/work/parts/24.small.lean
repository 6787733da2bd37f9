/-! ===== lengths, constants of the pool, small calls of the JDK ===== -/
theorem awd_sum {ad : Nat → Nat} {top : Nat} {S : List aV} (h : ∀ v ∈ S, okV top v) : ((S.map (cV ad)).map fun v => v.category).sum = awd S := by
  induction S with
  | nil => rfl
  | cons v S ih =>
    have := ih (fun w hw => h w (List.mem_cons_of_mem _ hw))
    simp only [awd, List.map_cons, List.sum_cons] at this ⊢
    rw [cV_cat (h v List.mem_cons_self), this]
section Small
variable {p : Program} {l : Launch} {e : Env} {R : Room} {s : State} {m : MethodId} {args : Array Value} {below : List Frame} {meth : Method} {c : Code} {Q : State → Prop} {cc : ByteArray} {nL : Nat} {own : String} {D : va_G} {cA : Nat → ClassId} {A : Nat → Prop} {ad0 : Nat → Nat} {M0 : aM} {t0 c0 u0 : Nat} {pc : Nat} {L S : List aV} {σ : aS}
theorem k_arraylength (hC : Cx p s m args c cc nL own D cA A ad0 M0) (hdg : decode cc pc = .ok (.arraylength, 1)) {n : Int} (h0 : 0 ≤ n) (h1 : 100 ≤ (ash n.toNat).1) (h2 : (ash n.toNat).1 < 104) (h3 : n.toNat < σ.2.1 ∨ 1000000 ≤ n) (h4 : alen σ n.toNat < 2147483648)
    (K : Gw p l e R s m args below meth c Q D cA A ad0 M0 t0 c0 u0 nL (pc + 1) L ((0, (alen σ n.toNat : Int)) :: S) σ) : Gw p l e R s m args below meth c Q D cA A ad0 M0 t0 c0 u0 nL pc L ((2, n) :: S) σ := by
  intro ad H locs ls cells slots hI
  obtain ⟨hx, hb, hml, hown, hts, hK, hA, hG⟩ := id hC
  show W _ _ _ _ _ _ _ _ _ _ _ _ _ _ _ (F0 m pc ls (cV ad (2, n) :: S.map (cV ad)))
  rw [cV_2 ad h0]
  have hS : ∀ w ∈ S, okV σ.2.1 w := fun w hw => hI.2.2.1 w (List.mem_cons_of_mem _ hw)
  have K1 := K ad H locs ls cells slots (hI.stk (okV_cons (okV_i ⟨by omega, by omega⟩) hS))
  have e0 : ∀ k : Nat, Int32.ofNat k = Int32.ofInt (k : Int) := fun k => rfl
  by_cases h5 : n.toNat < σ.2.1
  · have hne : n.toNat ≠ 1000000 := by have := hI.2.2.2.2.2.2.2.2; omega
    have el : alen σ n.toNat = (ash n.toNat).2 := by rw [alen, if_neg hne]
    rw [el] at K1
    rcases (by omega : (ash n.toNat).1 = 100 ∨ (ash n.toNat).1 = 101 ∨ (ash n.toNat).1 = 102 ∨ (ash n.toNat).1 = 103) with hk | hk | hk | hk
    · have ha : (cW cA ad σ)[n.toNat]? = some (ad n.toNat, .inl (cA 0, (ash n.toNat).2, .inl (fun j => Int32.ofInt (σ.1 n.toNat j)))) := by rw [cW_at h5, cE_int hk]
      exact va_alen hx hb hK hI.1.1 n.toNat 0 ha (tl_0 cA) (e0 _) hdg K1
    · have ha : (cW cA ad σ)[n.toNat]? = some (ad n.toNat, .inl (cA 1, (ash n.toNat).2, .inl (fun j => Int32.ofInt (σ.1 n.toNat j)))) := by rw [cW_at h5, cE_byte hk]
      exact va_alen hx hb hK hI.1.1 n.toNat 1 ha (tl_1 cA) (e0 _) hdg K1
    · have ha : (cW cA ad σ)[n.toNat]? = some (ad n.toNat, .inl (cA 2, (ash n.toNat).2, .inr (.inl (fun j => Int64.ofInt (σ.1 n.toNat j))))) := by rw [cW_at h5, cE_long hk]
      exact va_alen hx hb hK hI.1.1 n.toNat 2 ha (tl_2 cA) (e0 _) hdg K1
    · have ha : (cW cA ad σ)[n.toNat]? = some (ad n.toNat, .inl (cA 3, (ash n.toNat).2, .inr (.inr (.inr (.inr (fun j => if σ.1 n.toNat j < 0 then none else some (ad (σ.1 n.toNat j).toNat))))))) := by rw [cW_at h5, cE_row hk]
      exact va_alen hx hb hK hI.1.1 n.toNat 3 ha (tl_3 cA) (e0 _) hdg K1
  · have h6 : 1000000 ≤ n.toNat := by omega
    have e1 := hI.2.2.2.1 n.toNat (Or.inr h6)
    rcases (ash_big h6 (by omega)).1 with e5 | e5
    · rw [e5] at e1 K1 ⊢
      have hX := hG.2.2.2.2.2.1
      rw [e1]
      refine va_slen hx hb hX (Array.getElem?_eq_some_iff.mp hX.choose_spec.1).1 hG.2.2.2.2.2.2.1 hI.1.2.2.1 hdg ?_
      have el : alen σ 1000000 = (M0 1000000 5000).toNat := by rw [alen, if_pos rfl, hI.2.2.2.2.2.1 1000000 5000 (by decide)]
      rw [el] at K1
      exact K1
    · rw [e5] at e1 K1 ⊢
      have hX := hG.2.2.2.1
      rw [e1]
      exact va_tlen hx hb hX hI.1.2.2.1 (e0 8) hdg K1
theorem k_getstatic (hC : Cx p s m args c cc nL own D cA A ad0 M0) (i : Nat) (hw : Cond.fieldLink own i RX11 "ROOM" "[I" ∈ gt ∨ ∃ h, Cond.fieldLinkNest own i RX11 "ROOM" "[I" h ∈ gN) (hdg : decode cc pc = .ok (.getstatic i, 3))
    (K : Gw p l e R s m args below meth c Q D cA A ad0 M0 t0 c0 u0 nL (pc + 3) L ((2, 1000001) :: S) σ) : Gw p l e R s m args below meth c Q D cA A ad0 M0 t0 c0 u0 nL pc L S σ := by
  intro ad H locs ls cells slots hI
  obtain ⟨hx, hb, hml, hown, hts, hK, hA, hG⟩ := id hC
  have K1 := K ad H locs ls cells slots (hI.stk (okV_cons (Or.inr (Or.inr ⟨rfl, Or.inr (Or.inr (by decide))⟩)) hI.2.2.1))
  have e1 : ad 1000001 = ad0 1000001 := hI.2.2.2.1 1000001 (Or.inr (by decide))
  have K2 : W p l e R s m args below meth c H locs cells slots Q (F0 m (pc + 3) ls (.ref (ad0 1000001) :: S.map (cV ad))) := by
    rw [← e1]; exact K1
  rcases hw with hw | ⟨h, hw⟩
  · exact va_gets hx hb hG.2.2.1 hI.1.2.2.1 hown (hts _ hw) (fun _ h => h) hdg K2
  · exact va_getsN hx hb hG.2.2.1 hI.1.2.2.1 hown (va_Nw.use rfl (hG.1 _ hw)) (fun _ h => h) hdg K2
theorem str_ok {top x : Nat} : okV top (2, 2000000 + (x : Int)) := Or.inr (Or.inr ⟨rfl, Or.inr (Or.inr (show 1000000 ≤ (2000000 + (x : Int)).toNat by omega))⟩)
theorem k_ldcS (hC : Cx p s m args c cc nL own D cA A ad0 M0) (i x : Nat) {tx : String} (hw : asO[x]? = some (own, i, tx)) (hdg : decode cc pc = .ok (.ldc i, 2))
    (K : Gw p l e R s m args below meth c Q D cA A ad0 M0 t0 c0 u0 nL (pc + 2) L ((2, 2000000 + (x : Int)) :: S) σ) : Gw p l e R s m args below meth c Q D cA A ad0 M0 t0 c0 u0 nL pc L S σ := by
  intro ad H locs ls cells slots hI
  obtain ⟨hx, hb, hml, hown, hts, hK, hA, hG⟩ := id hC
  have K1 := K ad H locs ls cells slots (hI.stk (okV_cons str_ok hI.2.2.1))
  have e1 : ad (2000000 + x) = ad0 (2000000 + x) := hI.2.2.2.1 _ (Or.inr (by omega))
  refine va_ldcS hx hb hown (hG.2.2.2.2.2.2.2.2.2.1 x _ hw) hdg ?_
  rw [List.map_cons, cV_2 ad (by omega), show (2000000 + (x : Int)).toNat = 2000000 + x by omega, e1] at K1
  exact K1
theorem k_ldcSW (hC : Cx p s m args c cc nL own D cA A ad0 M0) (i x : Nat) {tx : String} (hw : asO[x]? = some (own, i, tx)) (hdg : decode cc pc = .ok (.ldc_w i, 3))
    (K : Gw p l e R s m args below meth c Q D cA A ad0 M0 t0 c0 u0 nL (pc + 3) L ((2, 2000000 + (x : Int)) :: S) σ) : Gw p l e R s m args below meth c Q D cA A ad0 M0 t0 c0 u0 nL pc L S σ := by
  intro ad H locs ls cells slots hI
  obtain ⟨hx, hb, hml, hown, hts, hK, hA, hG⟩ := id hC
  have K1 := K ad H locs ls cells slots (hI.stk (okV_cons str_ok hI.2.2.1))
  have e1 : ad (2000000 + x) = ad0 (2000000 + x) := hI.2.2.2.1 _ (Or.inr (by omega))
  rw [List.map_cons, cV_2 ad (by omega), show (2000000 + (x : Int)).toNat = 2000000 + x by omega, e1] at K1
  have hZ := hG.2.2.2.2.2.2.2.2.2.1 x _ hw
  intro T hT X
  obtain ⟨t, a1, b1⟩ := K1 T hT X
  exact ⟨t, X.ldcStringW hx hown (text := tx) (a := ad0 (2000000 + x)) hZ.1 hZ.2 (g := F0 m pc ls (S.map (cV ad))) rfl (by rw [hb]; exact hdg) t a1, b1⟩
theorem k_min (hC : Cx p s m args c cc nL own D cA A ad0 M0) (i : Nat) (hw1 : Cond.methodLink own i Lib.Math.min.name ∈ gt) (hw2 : Cond.static Lib.Math.min.name ∈ gt) (hw3 : Cond.initialized "java/lang/Math" ∈ gt) (hw4 : Cond.code Lib.Math.min.name Lib.Math.min.code 2 (some .int) ∈ gt) (hdg : decode cc pc = .ok (.invokestatic i, 3)) (hf : 1 ≤ R.frames) (hlo : 36 ≤ R.locals) (hwd : awd S ≤ 8) (hcap : σ.2.2.1 ≤ c0 + R.cells) (hsl : σ.2.2.2 ≤ u0 + R.slots) {a b : Int}
    (K : Gw p l e R s m args below meth c Q D cA A ad0 M0 t0 c0 u0 nL (pc + 3) L ((0, if b < a then b else a) :: S) σ) : Gw p l e R s m args below meth c Q D cA A ad0 M0 t0 c0 u0 nL pc L ((0, b) :: (0, a) :: S) σ := by
  intro ad H locs ls cells slots hI
  obtain ⟨hx, hb, hml, hown, hts, hK, hA, hG⟩ := id hC
  have hb1 : aIn b := okV_int (hI.2.2.1 _ List.mem_cons_self)
  have ha1 : aIn a := okV_int (hI.2.2.1 _ (List.mem_cons_of_mem _ List.mem_cons_self))
  have hS : ∀ v ∈ S, okV σ.2.1 v := fun w hw => hI.2.2.1 w (List.mem_cons_of_mem _ (List.mem_cons_of_mem _ hw))
  have hce := hI.2.2.2.2.2.2.1
  have hse := hI.2.2.2.2.2.2.2.1
  refine va_mmin hx hb (hml.trans hI.2.1.1.symm) hown (hts _ hw1) (hts _ hw2) (hts _ hw3) (hts _ hw4) hf (by rw [awd_sum hS]; omega) (by omega) (by omega) hdg ?_
  have K1 := K ad H locs ls cells slots (hI.stk (okV_cons (okV_i (by split <;> assumption)) hS))
  have e1 : (if Int32.ofInt b < Int32.ofInt a then Int32.ofInt b else Int32.ofInt a) = Int32.ofInt (if b < a then b else a) := by
    simp only [i32_lt hb1 ha1]; split <;> rfl
  rw [e1]
  exact K1
theorem k_max (hC : Cx p s m args c cc nL own D cA A ad0 M0) (i : Nat) (hw1 : Cond.methodLink own i Lib.Math.max.name ∈ gt) (hw2 : Cond.static Lib.Math.max.name ∈ gt) (hw3 : Cond.initialized "java/lang/Math" ∈ gt) (hw4 : Cond.code Lib.Math.max.name Lib.Math.max.code 2 (some .int) ∈ gt) (hdg : decode cc pc = .ok (.invokestatic i, 3)) (hf : 1 ≤ R.frames) (hlo : 36 ≤ R.locals) (hwd : awd S ≤ 8) (hcap : σ.2.2.1 ≤ c0 + R.cells) (hsl : σ.2.2.2 ≤ u0 + R.slots) {a b : Int}
    (K : Gw p l e R s m args below meth c Q D cA A ad0 M0 t0 c0 u0 nL (pc + 3) L ((0, if b < a then a else b) :: S) σ) : Gw p l e R s m args below meth c Q D cA A ad0 M0 t0 c0 u0 nL pc L ((0, b) :: (0, a) :: S) σ := by
  intro ad H locs ls cells slots hI
  obtain ⟨hx, hb, hml, hown, hts, hK, hA, hG⟩ := id hC
  have hb1 : aIn b := okV_int (hI.2.2.1 _ List.mem_cons_self)
  have ha1 : aIn a := okV_int (hI.2.2.1 _ (List.mem_cons_of_mem _ List.mem_cons_self))
  have hS : ∀ v ∈ S, okV σ.2.1 v := fun w hw => hI.2.2.1 w (List.mem_cons_of_mem _ (List.mem_cons_of_mem _ hw))
  have hce := hI.2.2.2.2.2.2.1
  have hse := hI.2.2.2.2.2.2.2.1
  refine va_mmax hx hb (hml.trans hI.2.1.1.symm) hown (hts _ hw1) (hts _ hw2) (hts _ hw3) (hts _ hw4) hf (by rw [awd_sum hS]; omega) (by omega) (by omega) hdg ?_
  have K1 := K ad H locs ls cells slots (hI.stk (okV_cons (okV_i (by split <;> assumption)) hS))
  have e1 : (if Int32.ofInt a < Int32.ofInt b then Int32.ofInt b else Int32.ofInt a) = Int32.ofInt (if b < a then a else b) := by
    simp only [i32_lt ha1 hb1]
    rcases Int.lt_trichotomy a b with h | h | h
    · rw [if_pos h, if_neg (by omega)]
    · subst h; simp
    · rw [if_neg (by omega), if_pos h]
  rw [e1]
  exact K1
theorem k_objInit (hC : Cx p s m args c cc nL own D cA A ad0 M0) (i : Nat) (hw1 : Cond.methodLink own i Lib.objectInit ∈ gt) (hw2 : Cond.instanceMethod Lib.objectInit ∈ gt) (hw3 : Cond.code Lib.objectInit ⟨#[0xb1]⟩ 1 none ∈ gt) (hdg : decode cc pc = .ok (.invokespecial i, 3)) (hf : 1 ≤ R.frames) (hlo : 36 ≤ R.locals) (hwd : awd S ≤ 8) {n : Int} (hn : 0 ≤ n)
    (K : Gw p l e R s m args below meth c Q D cA A ad0 M0 t0 c0 u0 nL (pc + 3) L S σ) : Gw p l e R s m args below meth c Q D cA A ad0 M0 t0 c0 u0 nL pc L ((2, n) :: S) σ := by
  intro ad H locs ls cells slots hI
  obtain ⟨hx, hb, hml, hown, hts, hK, hA, hG⟩ := id hC
  have hS : ∀ v ∈ S, okV σ.2.1 v := fun w hw => hI.2.2.1 w (List.mem_cons_of_mem _ hw)
  show W _ _ _ _ _ _ _ _ _ _ _ _ _ _ _ (F0 m pc ls (cV ad (2, n) :: S.map (cV ad)))
  rw [cV_2 ad hn]
  have h8 : ((S.map (cV ad)).map fun v => v.category).sum ≤ 8 := by rw [awd_sum hS]; exact hwd
  have h9 := lv_room (m := m) (pc := pc) (ls := ls) (rest := Value.ref (ad n.toNat) :: S.map (cV ad)) h8
  exact W.objInit hx hb hown (hts _ hw1) (hts _ hw2) (hts _ hw3) (g := F0 m pc ls (.ref (ad n.toNat) :: S.map (cV ad))) rfl (hI.2.1.1.trans hml.symm) rfl hdg hf (by omega) (K ad H locs ls cells slots (hI.stk hS))
theorem cpy_fun (M : aM) (n q sp dp k : Nat) : va_cpy (fun j => Int32.ofInt (M n j)) (fun j => Int32.ofInt (M q j)) sp dp k = fun j => Int32.ofInt (acpy M n q sp dp k q j) := by
  funext j
  unfold va_cpy acpy
  by_cases h : dp ≤ j ∧ j < dp + k <;> simp [h]
theorem k_copy (hC : Cx p s m args c cc nL own D cA A ad0 M0) (i : Nat) (hw1 : Cond.methodLink own i arraycopyName ∈ gt) (hw2 : Cond.native arraycopyName ∈ gt) (hw3 : Cond.static arraycopyName ∈ gt) (hw4 : Cond.initialized "java/lang/System" ∈ gt) (hdg : decode cc pc = .ok (.invokestatic i, 3)) (hf : 1 ≤ R.frames) (hlo : 36 ≤ R.locals) (hwd : awd S ≤ 8) {a b q pp n : Int} (hq : aWr σ q 100) (hn : aWr σ n 100) (hp0 : 0 ≤ pp) (ha0 : 0 ≤ a) (hb0 : 0 ≤ b) (h1 : pp + b ≤ (ash n.toNat).2) (h2 : a + b ≤ (ash q.toNat).2)
    (K : Gw p l e R s m args below meth c Q D cA A ad0 M0 t0 c0 u0 nL (pc + 3) L S (acpy σ.1 n.toNat q.toNat pp.toNat a.toNat b.toNat, σ.2)) : Gw p l e R s m args below meth c Q D cA A ad0 M0 t0 c0 u0 nL pc L ((0, b) :: (0, a) :: (2, q) :: (0, pp) :: (2, n) :: S) σ := by
  intro ad H locs ls cells slots hI
  obtain ⟨hx, hb, hml, hown, hts, hK, hA, hG⟩ := id hC
  obtain ⟨q0, q1, q2⟩ := hq
  obtain ⟨n0, n1, n2⟩ := hn
  have o := hI.2.2.1
  have hbi : aIn b := okV_int (o _ (by simp))
  have hai : aIn a := okV_int (o _ (by simp))
  have hpi : aIn pp := okV_int (o _ (by simp))
  have hS : ∀ v ∈ S, okV σ.2.1 v := fun w hw => o w (by simp [hw])
  have neg : ∀ x : Int, aIn x → 0 ≤ x → ¬ Int32.ofInt x < 0 := fun x hx h0 h => by
    have := (i32_lt hx (b := 0) ⟨by decide, by decide⟩).mp h
    omega
  show W _ _ _ _ _ _ _ _ _ _ _ _ _ _ _ (F0 m pc ls (.int (Int32.ofInt b) :: .int (Int32.ofInt a) :: cV ad (2, q) :: .int (Int32.ofInt pp) :: cV ad (2, n) :: S.map (cV ad)))
  rw [cV_2 ad q0, cV_2 ad n0]
  have hnw : nativeFrameWords "java/lang/System" "arraycopy" 5 = 7 := by decide +kernel
  refine va_copyi hx hb (hml.trans hI.2.1.1.symm) hown (hts _ hw1) (hts _ hw2) (hts _ hw3) (hts _ hw4) hK hI.1.1 hI.1.2.1 hI.1.2.2.1 n.toNat q.toNat 0 0 (by rw [cW_at n2, cE_int n1]) (by rw [cW_at q2, cE_int q1]) (tl_0 cA) (tl_0 cA) rfl (neg _ hpi hp0) (neg _ hai ha0) (neg _ hbi hb0) (by rw [i32_clamp hpi hp0, i32_clamp hbi hb0]; omega) (by rw [i32_clamp hai ha0, i32_clamp hbi hb0]; omega) (fun _ _ => rfl) hf (by rw [awd_sum hS, hnw]; omega) hdg (fun H1 locs1 hP hD hS1 => ?_)
  rw [i32_clamp hpi hp0, i32_clamp hai ha0, i32_clamp hbi hb0, cpy_fun] at hP hD
  have e1 : ∀ k, k ≠ q.toNat → ∀ j, acpy σ.1 n.toNat q.toNat pp.toNat a.toNat b.toNat k j = σ.1 k j := fun k hk j => by
    unfold acpy; rw [if_neg (fun h => hk h.1)]
  have e2 : (cW cA ad σ).set q.toNat (ad q.toNat, .inl (cA 0, (ash q.toNat).2, .inl (fun j => Int32.ofInt (acpy σ.1 n.toNat q.toNat pp.toNat a.toNat b.toNat q.toNat j)))) = cW cA ad (acpy σ.1 n.toNat q.toNat pp.toNat a.toNat b.toNat, σ.2) :=
    cW_set (M := σ.1) (x := σ.2) q2 (cE_int q1) (fun k hk => cE_cong (e1 k hk))
  rw [e2] at hP hD
  refine K ad H1 locs1 ls cells slots ⟨⟨hP, hD, hS1, fun x y hxy => ?_⟩, hI.2.1, hS, hI.2.2.2.1, hI.2.2.2.2.1, fun x y hxy => ?_, hI.2.2.2.2.2.2⟩
  · show rng σ.2.1 x y (acpy σ.1 n.toNat q.toNat pp.toNat a.toNat b.toNat x y)
    by_cases hxq : x = q.toNat
    · subst hxq
      rw [rng_int q1]
      unfold acpy
      split
      · exact (rng_int n1).mp (hI.1.2.2.2 n.toNat _ (Or.inl n2))
      · exact (rng_int q1).mp (hI.1.2.2.2 q.toNat _ (Or.inl q2))
    · rw [e1 x hxq]; exact hI.1.2.2.2 x y hxy
  · have := hI.2.2.2.2.2.2.2.2
    show acpy σ.1 n.toNat q.toNat pp.toNat a.toNat b.toNat x y = _
    rw [e1 x (by omega)]
    exact hI.2.2.2.2.2.1 x y hxy
end Small

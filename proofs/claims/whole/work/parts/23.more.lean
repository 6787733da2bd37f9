/-! ===== lengths, constants, new cells, small calls of the JDK ===== -/
theorem cV_ext {ad ad1 : Nat → Nat} {top : Nat} {v : aV} (h : ∀ k, (k < top ∨ 1000000 ≤ k) → ad1 k = ad k) (hv : okV top v) : cV ad1 v = cV ad v := by
  obtain ⟨t, x⟩ := v
  rcases hv with ⟨ht, -⟩ | ⟨ht, -⟩ | ⟨ht, hx⟩ <;> simp only at ht <;> subst ht
  · rfl
  · rfl
  · by_cases h0 : x < 0
    · rw [cV_n ad h0, cV_n ad1 h0]
    · rw [cV_2 ad (by omega), cV_2 ad1 (by omega)]
      simp only at hx
      rw [h x.toNat (by omega)]
theorem aft_le (ci k : Nat) : aft ci k = 0 ∨ aft ci k = 1 ∨ aft ci k = 2 := by
  have h : ∀ l ∈ aftL, ∀ x ∈ l, x = 0 ∨ x = 1 ∨ x = 2 := by decide +kernel
  unfold aft
  rw [List.getD_eq_getElem?_getD, List.getD_eq_getElem?_getD]
  cases h1 : aftL[ci]? with
  | none => exact Or.inl rfl
  | some l1 =>
    show (l1[k]?.getD 0) = 0 ∨ (l1[k]?.getD 0) = 1 ∨ (l1[k]?.getD 0) = 2
    cases h2 : l1[k]? with
    | none => exact Or.inl rfl
    | some x => exact h l1 (List.mem_of_getElem? h1) x (List.mem_of_getElem? h2)
theorem cE_ext {cA : Nat → ClassId} {ad ad1 : Nat → Nat} {M M1 : aM} {top n : Nat} (h : ∀ k, (k < top ∨ 1000000 ≤ k) → ad1 k = ad k) (hr : ∀ k, rng top n k (M n k)) (hM : ∀ k, M1 n k = M n k) : cE cA ad1 M1 n = cE cA ad M n := by
  rw [cE_cong hM]
  by_cases h1 : (ash n).1 < 50
  · rw [cE_obj rfl h1, cE_obj rfl h1]
    have : cF ad1 M n (ash n).1 = cF ad M n (ash n).1 := by
      unfold cF
      apply List.map_congr_left
      intro k _
      exact cV_ext h ((rng_obj rfl h1).mp (hr k))
    rw [this]
  · by_cases h2 : (ash n).1 = 103
    · rw [cE_row h2, cE_row h2]
      have : (fun j => if M n j < 0 then none else some (ad1 (M n j).toNat)) = (fun j => if M n j < 0 then none else some (ad (M n j).toNat)) := by
        funext j
        by_cases h0 : M n j < 0
        · rw [if_pos h0, if_pos h0]
        · rw [if_neg h0, if_neg h0, h]
          have := okV_ref ((rng_row h2).mp (hr j))
          omega
      rw [this]
    · simp only [cE, h1, h2, if_false]
/-- the world with a cell made -/
theorem cW_mk {cA : Nat → ClassId} {ad : Nat → Nat} {σ : aS} {z : Nat → Int} {n q : Nat} {e1 : va_E} (hM : okM σ) (htop : σ.2.1 < 1000000) (he : cE cA (fun k => if k = σ.2.1 then q else ad k) (amk σ z n).1 σ.2.1 = e1) : cW cA ad σ ++ [(q, e1)] = cW cA (fun k => if k = σ.2.1 then q else ad k) (amk σ z n) := by
  apply List.ext_getElem?
  intro k
  have hlen : (cW cA ad σ).length = σ.2.1 := by simp [cW]
  rcases Nat.lt_trichotomy k σ.2.1 with h | h | h
  · rw [List.getElem?_append_left (by omega), cW_at h, cW_at (σ := amk σ z n) (show k < σ.2.1 + 1 by omega)]
    have e2 : cE cA (fun k => if k = σ.2.1 then q else ad k) (amk σ z n).1 k = cE cA ad σ.1 k := by
      refine cE_ext (top := σ.2.1) (fun j hj => ?_) (fun j => hM k j (Or.inl h)) (fun j => ?_)
      · show (if j = σ.2.1 then q else ad j) = ad j
        rw [if_neg (by omega)]
      · show (if k = σ.2.1 then z j else σ.1 k j) = σ.1 k j
        rw [if_neg (by omega)]
    rw [e2]
    show _ = some ((if k = σ.2.1 then q else ad k), _)
    rw [if_neg (by omega)]
  · subst h
    rw [List.getElem?_append_right (by omega), hlen, Nat.sub_self, cW_at (σ := amk σ z n) (show σ.2.1 < σ.2.1 + 1 by omega), he]
    show _ = some ((if σ.2.1 = σ.2.1 then q else ad σ.2.1), _)
    rw [if_pos rfl]
    rfl
  · rw [List.getElem?_eq_none (by simp [hlen]; omega), cW_no (σ := amk σ z n) (show ¬ k < σ.2.1 + 1 by omega)]
theorem okM_mk {σ : aS} {z : Nat → Int} {n : Nat} (hM : okM σ) (htop : σ.2.1 < 1000000) (hz : ∀ k, rng (σ.2.1 + 1) σ.2.1 k (z k)) : okM (amk σ z n) := by
  intro a b hab
  show rng (σ.2.1 + 1) a b (if a = σ.2.1 then z b else σ.1 a b)
  by_cases e : a = σ.2.1
  · subst e; rw [if_pos rfl]; exact hz b
  · rw [if_neg e]
    have hab : a < σ.2.1 + 1 ∨ 1000000 ≤ a := hab
    have h1 := hM a b (by omega)
    have mono : ∀ v, okV σ.2.1 v → okV (σ.2.1 + 1) v := fun v h => okV_mono (by omega) h
    unfold rng at h1 ⊢
    split
    · rename_i h; rw [if_pos h] at h1; exact mono _ h1
    · rename_i h
      rw [if_neg h] at h1
      split
      · rename_i h2; rw [if_pos h2] at h1; exact h1
      · rename_i h2
        rw [if_neg h2] at h1
        split
        · rename_i h3; rw [if_pos h3] at h1; exact h1
        · rename_i h3
          rw [if_neg h3] at h1
          split
          · rename_i h4; rw [if_pos h4] at h1; exact mono _ h1
          · rename_i h4; rw [if_neg h4] at h1; exact h1
/-- behind a cell's making -/
theorem Iv.mk {D : va_G} {cA : Nat → ClassId} {A : Nat → Prop} {s : State} {ad0 ad : Nat → Nat} {M0 : aM} {t0 c0 u0 nL : Nat} {L S S1 : List aV} {σ : aS} {H H1 : Heap} {locs : List Loc} {ls : Array Slot} {cells slots n q : Nat} {z : Nat → Int} {e1 : va_E} (h : Iv D cA A s ad0 M0 t0 c0 u0 nL ad L S σ H locs ls cells slots) (htop : σ.2.1 < 1000000) (he : cE cA (fun k => if k = σ.2.1 then q else ad k) (amk σ z n).1 σ.2.1 = e1) (hz : ∀ k, rng (σ.2.1 + 1) σ.2.1 k (z k)) (hP : va_P D vwCl (cW cA ad σ ++ [(q, e1)]) H1) (hD : va_D A (cW cA ad σ ++ [(q, e1)])) (hS1 : va_S A s.heap H1 locs) (hS : ∀ v ∈ S1, okV σ.2.1 v) : Iv D cA A s ad0 M0 t0 c0 u0 nL (fun k => if k = σ.2.1 then q else ad k) L ((2, (σ.2.1 : Int)) :: S1) (amk σ z n) H1 locs ls (cells + 1) (slots + n) ∧ ((2, (σ.2.1 : Int)) :: S1).map (cV (fun k => if k = σ.2.1 then q else ad k)) = .ref q :: S1.map (cV ad) := by
  have hM := h.1.2.2.2
  rw [cW_mk hM htop he] at hP hD
  have hext : ∀ k, (k < σ.2.1 ∨ 1000000 ≤ k) → (if k = σ.2.1 then q else ad k) = ad k := fun k hk => if_neg (by omega)
  have hm : ∀ v, okV σ.2.1 v → okV (σ.2.1 + 1) v := fun v hv => okV_mono (by omega) hv
  obtain ⟨i1, i2, i3, i4⟩ := h.2.1
  refine ⟨⟨⟨hP, hD, hS1, okM_mk hM htop hz⟩, ⟨i1, i2, i3, fun k v hk => ?_⟩, okV_cons ?_ (fun v hv => hm v (hS v hv)), fun k hk => ?_, ?_, fun a b hab => ?_, ?_, ?_, ?_⟩, ?_⟩
  · rcases i4 k v hk with h9 | ⟨h1, h2⟩
    · exact Or.inl h9
    · exact Or.inr ⟨hm v h1, by rw [cV_ext hext h1]; exact h2⟩
  · exact Or.inr (Or.inr ⟨rfl, Or.inr (Or.inl (show ((σ.2.1 : Int)).toNat < σ.2.1 + 1 by omega))⟩)
  · have := h.2.2.2.2.1
    show (if k = σ.2.1 then q else ad k) = ad0 k
    rw [if_neg (by omega)]
    exact h.2.2.2.1 k hk
  · exact Nat.le_trans h.2.2.2.2.1 (Nat.le_succ _)
  · show (if a = σ.2.1 then z b else σ.1 a b) = _
    rw [if_neg (by omega)]
    exact h.2.2.2.2.2.1 a b hab
  · have := h.2.2.2.2.2.2.1
    show cells + 1 + c0 = σ.2.2.1 + 1
    omega
  · have := h.2.2.2.2.2.2.2.1
    show slots + n + u0 = σ.2.2.2 + n
    omega
  · show σ.2.1 + 1 ≤ 1000000
    omega
  · rw [List.map_cons, cV_2 _ (by omega)]
    have e3 : S1.map (cV (fun k => if k = σ.2.1 then q else ad k)) = S1.map (cV ad) := List.map_congr_left (fun v hv => cV_ext hext (hS v hv))
    rw [e3]
    simp
section More
variable {p : Program} {l : Launch} {e : Env} {R : Room} {s : State} {m : MethodId} {args : Array Value} {below : List Frame} {meth : Method} {c : Code} {Q : State → Prop} {cc : ByteArray} {nL : Nat} {own : String} {D : va_G} {cA : Nat → ClassId} {A : Nat → Prop} {ad0 : Nat → Nat} {M0 : aM} {t0 c0 u0 : Nat} {pc : Nat} {L S : List aV} {σ : aS}
theorem k_new (hC : Cx p s m args c cc nL own D cA A ad0 M0) (i ci : Nat) {C : String} {T : u_T} {N : Nat} (hc : vwCl[ci]? = some (C, T, N)) (hN : N = afn ci) (hci : ci < 50) (hin : ∀ w ∈ u_ws C T N, w ∈ gt) (ty0 : Nat → FieldType) (hty : ∀ k, k < N → parseFieldDescriptor (T k).2.2.1 = some (ty0 k)) (hz : ∀ k, k < N → tyOk (aft ci k) (ty0 k))
    (hw1 : Cond.classLink own i C ∈ gt) (hw2 : Cond.instantiable C N ∈ gt) (hw3 : Cond.initialized C ∈ gt) (hdg : decode cc pc = .ok (.new i, 3)) (hsh : (ash σ.2.1).1 = ci) (htop : σ.2.1 < 1000000) (hcap : σ.2.2.1 + 1 ≤ c0 + R.cells) (hsl : σ.2.2.2 + afn ci ≤ u0 + R.slots)
    (K : Gw p l e R s m args below meth c Q D cA A ad0 M0 t0 c0 u0 nL (pc + 3) L ((2, (σ.2.1 : Int)) :: S) (amk σ (fun k => if aft ci k = 2 then -1 else 0) (afn ci))) : Gw p l e R s m args below meth c Q D cA A ad0 M0 t0 c0 u0 nL pc L S σ := by
  intro ad H locs ls cells slots hI
  obtain ⟨hx, hb, hml, hown, hts, hK, hA, hG⟩ := id hC
  subst hN
  have hce := hI.2.2.2.2.2.2.1
  have hse := hI.2.2.2.2.2.2.2.1
  have hf : ∀ q : Nat, cE cA (fun k => if k = σ.2.1 then q else ad k) (amk σ (fun k => if aft ci k = 2 then -1 else 0) (afn ci)).1 σ.2.1 = .inr (ci, (List.range (afn ci)).map (fun k => cV (fun k => if k = σ.2.1 then q else ad k) (aft ci k, if aft ci k = 2 then -1 else 0))) := by
    intro q
    rw [cE_obj hsh hci]
    congr 2
    unfold cF
    apply List.map_congr_left
    intro k _
    show cV _ (aft ci k, if σ.2.1 = σ.2.1 then (if aft ci k = 2 then -1 else 0) else _) = _
    rw [if_pos rfl]
  have hd : ∀ (ad1 : Nat → Nat) (k : Nat), cV ad1 (aft ci k, if aft ci k = 2 then -1 else 0) = cV ad (aft ci k, if aft ci k = 2 then -1 else 0) := by
    intro ad1 k
    rcases aft_le ci k with h | h | h <;> rw [h] <;> rfl
  refine va_new (ci := ci) (fs := (List.range (afn ci)).map (fun k => cV ad (aft ci k, if aft ci k = 2 then -1 else 0))) hx hb hts hin ty0 hty hown (hts _ hw1) (hts _ hw2) (hts _ hw3) hK hI.1.1 hI.1.2.1 hI.1.2.2.1 hA hc (fun j hj => ?_) (by omega) (by omega) hdg (fun q H1 hP hD hS => ?_)
  · have : (List.map (fun k => cV ad (aft ci k, if aft ci k = 2 then -1 else 0)) (List.range (afn ci)))[j]? = some (cV ad (aft ci j, if aft ci j = 2 then -1 else 0)) := by simp [List.getElem?_map, List.getElem?_range hj]
    rw [vp_V, List.getD_eq_getElem?_getD, this]
    rcases hz j hj with ⟨h1, h2⟩ | ⟨h1, h2⟩ | ⟨h1, ⟨n, h2⟩ | ⟨u, h2⟩⟩ <;> rw [h1, h2] <;> rfl
  · have he2 := hf q
    simp only [hd (fun k => if k = σ.2.1 then q else ad k)] at he2
    obtain ⟨hI1, e1⟩ := hI.mk (S1 := S) (q := q) (z := fun k => if aft ci k = 2 then -1 else 0) (n := afn ci) htop he2 (fun k => by
      rw [rng_obj hsh hci]
      rcases aft_le ci k with h | h | h <;> rw [h]
      · exact okV_i ⟨by decide, by decide⟩
      · exact okV_l ⟨by decide, by decide⟩
      · exact Or.inr (Or.inr ⟨rfl, Or.inl (by decide)⟩)) hP hD hS hI.2.2.1
    have K1 := K _ H1 locs ls _ _ hI1
    rw [e1] at K1
    exact K1
theorem arr_id {cAn : ClassId} {ty : FieldType} {i : Nat} (hK : va_K D vwCl (tyL cA ++ [(cAn, ty)]) s) (ht : (tyL cA)[i]? = some (cA i, ty)) : cAn = cA i := by
  have h1 := hK.2 (tyL cA).length (cAn, ty) (by simp)
  have h2 := hK.2 i (cA i, ty) (by rw [List.getElem?_append_left (List.getElem?_eq_some_iff.mp ht).1]; exact ht)
  have r1 := h1.2
  have r2 := h2.2
  cases ty with
  | object C =>
    obtain ⟨_, _, -, -, -, e1⟩ := r1
    obtain ⟨_, _, -, -, -, e2⟩ := r2
    exact Option.some.inj (e1.symm.trans e2)
  | _ => exact Option.some.inj (Eq.trans (Eq.symm r1) r2)
theorem k_newarray (hC : Cx p s m args c cc nL own D cA A ad0 M0) (t : ArrayType) (kind : Nat) (hk : (kind = 100 ∧ newarray.typeOf t = .int) ∨ (kind = 101 ∧ newarray.typeOf t = .byte) ∨ (kind = 102 ∧ newarray.typeOf t = .long)) (hw : Cond.arrayClass (newarray.typeOf t) ∈ gt) (hdg : decode cc pc = .ok (.newarray t, 2)) {n : Int} (hn : 0 ≤ n) (hn2 : n < 1000) (hsh : ash σ.2.1 = (kind, n.toNat)) (htop : σ.2.1 < 1000000) (hcap : σ.2.2.1 + 1 ≤ c0 + R.cells) (hsl : σ.2.2.2 + n.toNat ≤ u0 + R.slots)
    (K : Gw p l e R s m args below meth c Q D cA A ad0 M0 t0 c0 u0 nL (pc + 2) L ((2, (σ.2.1 : Int)) :: S) (amk σ (fun _ => 0) n.toNat)) : Gw p l e R s m args below meth c Q D cA A ad0 M0 t0 c0 u0 nL pc L ((0, n) :: S) σ := by
  intro ad H locs ls cells slots hI
  obtain ⟨hx, hb, hml, hown, hts, hK, hA, hG⟩ := id hC
  have hce := hI.2.2.2.2.2.2.1
  have hse := hI.2.2.2.2.2.2.2.1
  have hni : aIn n := ⟨by omega, by omega⟩
  have hS : ∀ w ∈ S, okV σ.2.1 w := fun w hw => hI.2.2.1 w (List.mem_cons_of_mem _ hw)
  have hn0 : ¬ Int32.ofInt n < 0 := fun h => by
    have := (i32_lt hni (b := 0) ⟨by decide, by decide⟩).mp h
    omega
  have hz : ∀ k, rng (σ.2.1 + 1) σ.2.1 k 0 := fun k => by
    have : (ash σ.2.1).1 = kind := by rw [hsh]
    rcases hk with ⟨h1, -⟩ | ⟨h1, -⟩ | ⟨h1, -⟩ <;> subst h1
    · rw [rng_int this]; exact ⟨by decide, by decide⟩
    · rw [rng_byte this]; exact ⟨by decide, by decide⟩
    · rw [rng_long this]; exact ⟨by decide, by decide⟩
  have hk1 : (ash σ.2.1).1 = kind := by rw [hsh]
  have hk2 : (ash σ.2.1).2 = n.toNat := by rw [hsh]
  have hzf : ∀ k, (amk σ (fun _ => 0) n.toNat).1 σ.2.1 k = 0 := fun k => by show (if σ.2.1 = σ.2.1 then (0 : Int) else _) = 0; rw [if_pos rfl]
  have fin : ∀ (q : Nat) (H1 : Heap) (e1 : va_E), cE cA (fun k => if k = σ.2.1 then q else ad k) (amk σ (fun _ => 0) n.toNat).1 σ.2.1 = e1 → va_P D vwCl (cW cA ad σ ++ [(q, e1)]) H1 → va_D A (cW cA ad σ ++ [(q, e1)]) → va_S A s.heap H1 locs → W p l e R s m args below meth c H1 locs (cells + 1) (slots + n.toNat) Q (F0 m (pc + 2) ls (.ref q :: S.map (cV ad))) := by
    intro q H1 e1 he hP hD hS1
    obtain ⟨hI1, e2⟩ := hI.mk (S1 := S) (q := q) (z := fun _ => 0) (n := n.toNat) htop he hz hP hD hS1 hS
    have K1 := K _ H1 locs ls _ _ hI1
    rw [e2] at K1
    exact K1
  rcases hk with ⟨rfl, ht⟩ | ⟨rfl, ht⟩ | ⟨rfl, ht⟩
  · refine va_newa (a0 := (n.toNat, .inl (fun _ => 0))) hx hb (hts _ hw) ht hK hI.1.1 hI.1.2.1 hI.1.2.2.1 hA (fun _ => rfl) hn0 (i32_clamp hni hn) (by simp only [componentBytes]; omega) (by omega) (by omega) hdg (fun q cAn H1 hK1 hP hD hS1 => ?_)
    rw [arr_id hK1 (tl_0 cA)] at hP hD
    refine fin q H1 _ ?_ hP hD hS1
    rw [cE_int hk1, hk2]
    simp only [hzf]
    rfl
  · refine va_newa (a0 := (n.toNat, .inl (fun _ => 0))) hx hb (hts _ hw) ht hK hI.1.1 hI.1.2.1 hI.1.2.2.1 hA (fun _ => rfl) hn0 (i32_clamp hni hn) (by simp only [componentBytes]; omega) (by omega) (by omega) hdg (fun q cAn H1 hK1 hP hD hS1 => ?_)
    rw [arr_id hK1 (tl_1 cA)] at hP hD
    refine fin q H1 _ ?_ hP hD hS1
    rw [cE_byte hk1, hk2]
    simp only [hzf]
    rfl
  · refine va_newa (a0 := (n.toNat, .inr (.inl (fun _ => 0)))) hx hb (hts _ hw) ht hK hI.1.1 hI.1.2.1 hI.1.2.2.1 hA (fun _ => rfl) hn0 (i32_clamp hni hn) (by simp only [componentBytes]; omega) (by omega) (by omega) hdg (fun q cAn H1 hK1 hP hD hS1 => ?_)
    rw [arr_id hK1 (tl_2 cA)] at hP hD
    refine fin q H1 _ ?_ hP hD hS1
    rw [cE_long hk1, hk2]
    simp only [hzf]
    rfl
theorem k_anewarray (hC : Cx p s m args c cc nL own D cA A ad0 M0) (i : Nat) (hw : Cond.classLink own i RX8 ∈ gt) (hdg : decode cc pc = .ok (.anewarray i, 3)) {n : Int} (hn : 0 ≤ n) (hn2 : n < 1000) (hsh : ash σ.2.1 = (103, n.toNat)) (htop : σ.2.1 < 1000000) (hcap : σ.2.2.1 + 1 ≤ c0 + R.cells) (hsl : σ.2.2.2 + n.toNat ≤ u0 + R.slots)
    (K : Gw p l e R s m args below meth c Q D cA A ad0 M0 t0 c0 u0 nL (pc + 3) L ((2, (σ.2.1 : Int)) :: S) (amk σ (fun _ => -1) n.toNat)) : Gw p l e R s m args below meth c Q D cA A ad0 M0 t0 c0 u0 nL pc L ((0, n) :: S) σ := by
  intro ad H locs ls cells slots hI
  obtain ⟨hx, hb, hml, hown, hts, hK, hA, hG⟩ := id hC
  have hce := hI.2.2.2.2.2.2.1
  have hse := hI.2.2.2.2.2.2.2.1
  have hni : aIn n := ⟨by omega, by omega⟩
  have hS : ∀ w ∈ S, okV σ.2.1 w := fun w hw => hI.2.2.1 w (List.mem_cons_of_mem _ hw)
  have hn0 : ¬ Int32.ofInt n < 0 := fun h => by
    have := (i32_lt hni (b := 0) ⟨by decide, by decide⟩).mp h
    omega
  have hk1 : (ash σ.2.1).1 = 103 := by rw [hsh]
  have hk2 : (ash σ.2.1).2 = n.toNat := by rw [hsh]
  have hzf : ∀ k, (amk σ (fun _ => -1) n.toNat).1 σ.2.1 k = -1 := fun k => by show (if σ.2.1 = σ.2.1 then (-1 : Int) else _) = -1; rw [if_pos rfl]
  refine va_newq hx hb hown (hts _ hw) hG.2.1.1 hK hI.1.1 hI.1.2.1 hI.1.2.2.1 hA hn0 (i32_clamp hni hn) (by omega) (by omega) (by omega) hdg (fun q cAn H1 hK1 hP hD hS1 => ?_)
  rw [arr_id hK1 (tl_3 cA)] at hP hD
  obtain ⟨hI1, e2⟩ := hI.mk (S1 := S) (q := q) (z := fun _ => -1) (n := n.toNat) htop (e1 := .inl (cA 3, n.toNat, .inr (.inr (.inr (.inr (fun _ => none)))))) (by rw [cE_row hk1, hk2]; simp only [hzf]; rfl) (fun k => by rw [rng_row hk1]; exact Or.inr (Or.inr ⟨rfl, Or.inl (by decide)⟩)) hP hD hS1 hS
  have K1 := K _ H1 locs ls _ _ hI1
  rw [e2] at K1
  exact K1
end More

/-! ===== an instruction of the pure machine is one of the machine: Gw says of a place, locals, stack and store that the machine comes from there to Q ===== -/
def gt : List Cond := lw_tbl.filter goodWord
def isNest : Cond → Bool
  | .fieldLinkNest .. => true
  | .methodLinkNest .. => true
  | .castable .. => true
  | .declares .. => true
  | _ => false
def gN : List Cond := lw_tbl.filter isNest
/-- what no method changes: words of nest mates, the static row, the script, the texts -/
def Gl (ad : Nat → Nat) (A : Nat → Prop) (M : aM) (U : State) (H : Heap) : Prop :=
  (∀ w ∈ gN, va_Nw w U) ∧ (va_AO RX8 U ∧ vx_Zq Bundle.tN "UNASSIGNED_STACK" Bundle.steD A U H ∧ vx_Zq Bundle.tN "SUPPRESSED_SENTINEL" Bundle.listD A U H) ∧ va_Z RX11 "ROOM" "[I" (.ref (ad 1000001)) A U H ∧ va_T .int (ad 1000001) 8 (fun j => .int (Int32.ofInt (M 1000001 j))) A U H ∧ True ∧
  va_X (ad 1000000) (M 1000000 5000).toNat (fun j => Int32.ofInt (M 1000000 j)) U H ∧ ¬ A (ad 1000000) ∧
  va_Z "java/lang/String" "COMPACT_STRINGS" "Z" (.int 1) A U H ∧ (∃ v, va_Z "jdk/internal/util/Preconditions" "SIOOBE_FORMATTER" "Ljava/util/function/BiFunction;" v A U H ∧ (v = .null ∨ ∃ a, v = .ref a)) ∧
  (∀ (i : Nat) (q : String × Nat × String), asO[i]? = some q → vk_R q.1 q.2.1 q.2.2 (ad (2000000 + i)) U) ∧
  ∀ i : Nat, i < 48 → ∃ q : Nat, va_O "java/lang/String" (ad (2000000 + i)) A U H ∧ va_OF "java/lang/String" "coder" "B" (.int 0) (ad (2000000 + i)) A U H ∧ va_OF "java/lang/String" "value" "[B" (.ref q) (ad (2000000 + i)) A U H ∧ va_T .byte q (atx.getD i []).length (fun j => .int (Int32.ofNat ((atx.getD i []).getD j 0))) A U H
def Cx (p : Program) (s : State) (m : MethodId) (args : Array Value) (c : Code) (cc : ByteArray) (nL : Nat) (own : String) (D : va_G) (cA : Nat → ClassId) (A : Nat → Prop) (ad0 : Nat → Nat) (M0 : aM) : Prop :=
  p.tables.exec = Jvm.exec ∧ c.code = cc ∧ c.maxLocals = nL ∧ s.vm.findClass own = some m.cls ∧ (∀ w ∈ gt, w.before args s = true) ∧ va_K D vwCl (tyL cA) s ∧ (∀ q, s.heap.size ≤ q → A q) ∧ Gl ad0 A M0 s s.heap
def Iv (D : va_G) (cA : Nat → ClassId) (A : Nat → Prop) (s : State) (ad0 : Nat → Nat) (M0 : aM) (t0 c0 u0 nL : Nat) (ad : Nat → Nat) (L S : List aV) (σ : aS) (H : Heap) (locs : List Loc) (ls : Array Slot) (cells slots : Nat) : Prop :=
  IM D cA A s.heap ad σ H locs ∧ IL ad σ.2.1 nL L ls ∧ (∀ v ∈ S, okV σ.2.1 v) ∧ (∀ k, (k < t0 ∨ 1000000 ≤ k) → ad k = ad0 k) ∧ t0 ≤ σ.2.1 ∧ (∀ n k, 1000000 ≤ n → σ.1 n k = M0 n k) ∧ cells + c0 = σ.2.2.1 ∧ slots + u0 = σ.2.2.2 ∧ σ.2.1 ≤ 1000000
def Gw (p : Program) (l : Launch) (e : Env) (R : Room) (s : State) (m : MethodId) (args : Array Value) (below : List Frame) (meth : Method) (c : Code) (Q : State → Prop) (D : va_G) (cA : Nat → ClassId) (A : Nat → Prop) (ad0 : Nat → Nat) (M0 : aM) (t0 c0 u0 nL : Nat) (pc : Nat) (L S : List aV) (σ : aS) : Prop :=
  ∀ ad H locs ls cells slots, Iv D cA A s ad0 M0 t0 c0 u0 nL ad L S σ H locs ls cells slots → W p l e R s m args below meth c H locs cells slots Q (F0 m pc ls (S.map (cV ad)))
theorem Iv.stk {D : va_G} {cA : Nat → ClassId} {A : Nat → Prop} {s : State} {ad0 ad : Nat → Nat} {M0 : aM} {t0 c0 u0 nL : Nat} {L S S1 : List aV} {σ : aS} {H : Heap} {locs : List Loc} {ls : Array Slot} {cells slots : Nat} (h : Iv D cA A s ad0 M0 t0 c0 u0 nL ad L S σ H locs ls cells slots) (hS : ∀ v ∈ S1, okV σ.2.1 v) : Iv D cA A s ad0 M0 t0 c0 u0 nL ad L S1 σ H locs ls cells slots := ⟨h.1, h.2.1, hS, h.2.2.2⟩
theorem okV_cons {top : Nat} {v : aV} {S : List aV} (h : okV top v) (hS : ∀ w ∈ S, okV top w) : ∀ w ∈ v :: S, okV top w := fun w hw => (List.mem_cons.mp hw).elim (fun e => e ▸ h) (hS w)
theorem okV_i {top : Nat} {x : Int} (h : aIn x) : okV top (0, x) := Or.inl ⟨rfl, h⟩
theorem okV_l {top : Nat} {x : Int} (h : aInL x) : okV top (1, x) := Or.inr (Or.inl ⟨rfl, h⟩)
theorem okV_int {top : Nat} {x : Int} (h : okV top (0, x)) : aIn x := by simpa [okV] using h
theorem okV_long {top : Nat} {x : Int} (h : okV top (1, x)) : aInL x := by simpa [okV] using h
theorem okV_ref {top : Nat} {x : Int} (h : okV top (2, x)) : x < 0 ∨ x.toNat < top ∨ 1000000 ≤ x.toNat := by simpa [okV] using h
theorem okV_tag {top : Nat} {v : aV} (h : okV top v) : v.1 = 0 ∨ v.1 = 1 ∨ v.1 = 2 := by rcases h with h | h | h <;> simp [h.1]
theorem okV_mono {t t1 : Nat} {v : aV} (ht : t ≤ t1) (h : okV t v) : okV t1 v := by
  rcases h with h | h | h
  · exact Or.inl h
  · exact Or.inr (Or.inl h)
  · refine Or.inr (Or.inr ⟨h.1, ?_⟩)
    rcases h.2 with h | h | h
    · exact Or.inl h
    · exact Or.inr (Or.inl (by omega))
    · exact Or.inr (Or.inr h)
theorem aget_some {L : List aV} {i t : Nat} {v : Int} (h : aget L i t = some v) : L[i]? = some (t, v) := by
  unfold aget at h
  cases hL : L[i]? with
  | none => rw [hL] at h; cases h
  | some w =>
    rw [hL] at h
    obtain ⟨t1, v1⟩ := w
    by_cases ht : t1 = t
    · subst ht
      simp at h
      rw [h]
    · simp [ht] at h
theorem IL.get {ad : Nat → Nat} {top nL : Nat} {L : List aV} {ls : Array Slot} (h : IL ad top nL L ls) {i t : Nat} {v : Int} (hg : aget L i t = some v) (ht : t ≠ 9) : okV top (t, v) ∧ ls[i]? = some (.val (cV ad (t, v))) := by
  rcases h.2.2.2 i (t, v) (aget_some hg) with h1 | h1
  · exact absurd h1 ht
  · exact h1
theorem cV_0 (ad : Nat → Nat) (x : Int) : cV ad (0, x) = .int (Int32.ofInt x) := rfl
theorem cV_1 (ad : Nat → Nat) (x : Int) : cV ad (1, x) = .long (Int64.ofInt x) := rfl
theorem cV_2 (ad : Nat → Nat) {x : Int} (h : 0 ≤ x) : cV ad (2, x) = .ref (ad x.toNat) := by
  show (if x < 0 then Value.null else .ref (ad x.toNat)) = _
  rw [if_neg (by omega)]
theorem cV_n (ad : Nat → Nat) {x : Int} (h : x < 0) : cV ad (2, x) = .null := by
  show (if x < 0 then Value.null else .ref (ad x.toNat)) = _
  rw [if_pos h]
theorem cV_cat {ad : Nat → Nat} {v : aV} {top : Nat} (h : okV top v) : (cV ad v).category = if v.1 = 1 then 2 else 1 := by
  obtain ⟨t, x⟩ := v
  rcases h with h | h | h <;> obtain ⟨h, -⟩ := h <;> simp only at h <;> subst h
  · rfl
  · rfl
  · by_cases hx : x < 0
    · rw [cV_n ad hx]; rfl
    · rw [cV_2 ad (by omega)]; rfl
theorem lg_cmp_a {a b : Int} (ha : aInL a) (hb : aInL b) : lg_cmp (Int64.ofInt a) (Int64.ofInt b) = Int32.ofInt (alcmp a b) := by
  have h1 : Int64.ofInt a > Int64.ofInt b ↔ b < a := by
    rw [gt_iff_lt, Int64.lt_iff_toInt_lt, i64_toInt ha, i64_toInt hb]
  have h2 : Int64.ofInt a = Int64.ofInt b ↔ a = b := by
    constructor
    · intro h
      have := congrArg Int64.toInt h
      rwa [i64_toInt ha, i64_toInt hb] at this
    · intro h; rw [h]
  unfold lg_cmp alcmp
  simp only [h1, h2]
  split
  · rfl
  · split <;> rfl
theorem alcmp_in (a b : Int) : aIn (alcmp a b) := by
  unfold alcmp
  split
  · exact ⟨by omega, by omega⟩
  · split <;> exact ⟨by omega, by omega⟩
section Ops
variable {p : Program} {l : Launch} {e : Env} {R : Room} {s : State} {m : MethodId} {args : Array Value} {below : List Frame} {meth : Method} {c : Code} {Q : State → Prop} {cc : ByteArray} {nL : Nat} {own : String} {D : va_G} {cA : Nat → ClassId} {A : Nat → Prop} {ad0 : Nat → Nat} {M0 : aM} {t0 c0 u0 : Nat} {pc : Nat} {L S : List aV} {σ : aS}
theorem k_aload_n (hC : Cx p s m args c cc nL own D cA A ad0 M0) (i : Fin 4) {v : Int} (hdg : decode cc pc = .ok (.aload_n i, 1)) (hg : aget L i.val 2 = some v) (h0 : 0 ≤ v)
    (k : Gw p l e R s m args below meth c Q D cA A ad0 M0 t0 c0 u0 nL (pc + 1) L ((2, v) :: S) σ) : Gw p l e R s m args below meth c Q D cA A ad0 M0 t0 c0 u0 nL (pc) L S σ := by
  intro ad H locs ls cells slots hI
  obtain ⟨hx, hb, hml, hown, hts, hK, hA, hG⟩ := id hC
  obtain ⟨ho, hv⟩ := hI.2.1.get hg (by decide)
  rw [cV_2 ad h0] at hv
  refine lv_aload_n hx hb hdg rfl hv ?_
  rw [← cV_2 ad h0]
  exact k ad H locs ls cells slots (hI.stk (okV_cons ho hI.2.2.1))
theorem k_aload (hC : Cx p s m args c cc nL own D cA A ad0 M0) (i : Nat) {v : Int} (hdg : decode cc pc = .ok (.aload i, 2)) (hg : aget L i 2 = some v) (h0 : 0 ≤ v)
    (k : Gw p l e R s m args below meth c Q D cA A ad0 M0 t0 c0 u0 nL (pc + 2) L ((2, v) :: S) σ) : Gw p l e R s m args below meth c Q D cA A ad0 M0 t0 c0 u0 nL (pc) L S σ := by
  intro ad H locs ls cells slots hI
  obtain ⟨hx, hb, hml, hown, hts, hK, hA, hG⟩ := id hC
  obtain ⟨ho, hv⟩ := hI.2.1.get hg (by decide)
  rw [cV_2 ad h0] at hv
  refine lv_aload hx hb hdg hv ?_
  rw [← cV_2 ad h0]
  exact k ad H locs ls cells slots (hI.stk (okV_cons ho hI.2.2.1))
theorem k_iload_n (hC : Cx p s m args c cc nL own D cA A ad0 M0) (i : Fin 4) {v : Int} (hdg : decode cc pc = .ok (.iload_n i, 1)) (hg : aget L i.val 0 = some v)
    (k : Gw p l e R s m args below meth c Q D cA A ad0 M0 t0 c0 u0 nL (pc + 1) L ((0, v) :: S) σ) : Gw p l e R s m args below meth c Q D cA A ad0 M0 t0 c0 u0 nL (pc) L S σ := by
  intro ad H locs ls cells slots hI
  obtain ⟨hx, hb, hml, hown, hts, hK, hA, hG⟩ := id hC
  obtain ⟨ho, hv⟩ := hI.2.1.get hg (by decide)
  rw [cV_0] at hv
  refine lv_iload_n hx hb hdg rfl hv ?_
  exact k ad H locs ls cells slots (hI.stk (okV_cons ho hI.2.2.1))
theorem k_iload (hC : Cx p s m args c cc nL own D cA A ad0 M0) (i : Nat) {v : Int} (hdg : decode cc pc = .ok (.iload i, 2)) (hg : aget L i 0 = some v)
    (k : Gw p l e R s m args below meth c Q D cA A ad0 M0 t0 c0 u0 nL (pc + 2) L ((0, v) :: S) σ) : Gw p l e R s m args below meth c Q D cA A ad0 M0 t0 c0 u0 nL (pc) L S σ := by
  intro ad H locs ls cells slots hI
  obtain ⟨hx, hb, hml, hown, hts, hK, hA, hG⟩ := id hC
  obtain ⟨ho, hv⟩ := hI.2.1.get hg (by decide)
  rw [cV_0] at hv
  refine lv_iload hx hb hdg hv ?_
  exact k ad H locs ls cells slots (hI.stk (okV_cons ho hI.2.2.1))
theorem k_lload_n (hC : Cx p s m args c cc nL own D cA A ad0 M0) (i : Fin 4) {v : Int} (hdg : decode cc pc = .ok (.lload_n i, 1)) (hg : aget L i.val 1 = some v)
    (k : Gw p l e R s m args below meth c Q D cA A ad0 M0 t0 c0 u0 nL (pc + 1) L ((1, v) :: S) σ) : Gw p l e R s m args below meth c Q D cA A ad0 M0 t0 c0 u0 nL (pc) L S σ := by
  intro ad H locs ls cells slots hI
  obtain ⟨hx, hb, hml, hown, hts, hK, hA, hG⟩ := id hC
  obtain ⟨ho, hv⟩ := hI.2.1.get hg (by decide)
  rw [cV_1] at hv
  refine lv_lload_n hx hb hdg rfl hv ?_
  exact k ad H locs ls cells slots (hI.stk (okV_cons ho hI.2.2.1))
theorem k_lload (hC : Cx p s m args c cc nL own D cA A ad0 M0) (i : Nat) {v : Int} (hdg : decode cc pc = .ok (.lload i, 2)) (hg : aget L i 1 = some v)
    (k : Gw p l e R s m args below meth c Q D cA A ad0 M0 t0 c0 u0 nL (pc + 2) L ((1, v) :: S) σ) : Gw p l e R s m args below meth c Q D cA A ad0 M0 t0 c0 u0 nL (pc) L S σ := by
  intro ad H locs ls cells slots hI
  obtain ⟨hx, hb, hml, hown, hts, hK, hA, hG⟩ := id hC
  obtain ⟨ho, hv⟩ := hI.2.1.get hg (by decide)
  rw [cV_1] at hv
  refine lv_lload hx hb hdg hv ?_
  exact k ad H locs ls cells slots (hI.stk (okV_cons ho hI.2.2.1))
end Ops
/-- the list of the locals that the rows of the kit speak of -/
def lvL (ad : Nat → Nat) (L : List aV) : List (Nat × Value) := (List.range L.length).filterMap (fun i => match L[i]? with
  | some v => if v.1 = 9 then none else some (i, cV ad v)
  | none => none)
theorem lvL_mem {ad : Nat → Nat} {L : List aV} {i : Nat} {v : aV} (h : L[i]? = some v) (h9 : v.1 ≠ 9) : (i, cV ad v) ∈ lvL ad L := by
  refine List.mem_filterMap.mpr ⟨i, List.mem_range.mpr ((List.getElem?_eq_some_iff.mp h).1), ?_⟩
  rw [h]
  simp [h9]
theorem IL.has {ad : Nat → Nat} {top nL : Nat} {L : List aV} {ls : Array Slot} (h : IL ad top nL L ls) : lv_has ls nL (lvL ad L) := by
  refine ⟨h.1, h.2.2.1, fun q hq => ?_⟩
  obtain ⟨i, -, hi⟩ := List.mem_filterMap.mp hq
  cases hL : L[i]? with
  | none => rw [hL] at hi; cases hi
  | some v =>
    rw [hL] at hi
    by_cases h9 : v.1 = 9
    · simp [h9] at hi
    · simp only [h9, if_false] at hi
      cases hi
      rcases h.2.2.2 i v hL with h1 | h1
      · exact absurd h1 h9
      · exact h1.2
theorem aclr_len (L : List aV) (i : Nat) : (aclr L i).length = L.length := by
  unfold aclr
  split
  · rfl
  · split
    · split <;> simp
    · rfl
theorem aclr_at {L : List aV} {i k : Nat} {v : aV} (h : (aclr L i)[k]? = some v) : v.1 = 9 ∨ (L[k]? = some v ∧ ¬ (k + 1 = i ∧ v.1 = 1)) := by
  unfold aclr at h
  split at h
  · exact Or.inr ⟨h, fun q => by omega⟩
  · rename_i j
    split at h
    · rename_i w hw
      split at h
      · by_cases hk : k = j
        · subst hk
          rw [List.getElem?_set_self ((List.getElem?_eq_some_iff.mp hw).1)] at h
          cases h
          exact Or.inl rfl
        · rw [List.getElem?_set_ne (fun q => hk q.symm)] at h
          exact Or.inr ⟨h, fun q => hk (by omega)⟩
      · rename_i h1
        refine Or.inr ⟨h, fun q => ?_⟩
        have : k = j := by omega
        subst this
        rw [hw] at h
        cases h
        exact h1 q.2
    · rename_i hw
      refine Or.inr ⟨h, fun q => ?_⟩
      have : k = j := by omega
      subst this
      rw [hw] at h
      cases h
theorem IL.set1 {ad : Nat → Nat} {top nL : Nat} {L : List aV} {ls ls1 : Array Slot} {i : Nat} {v : aV} (h : IL ad top nL L ls) (hv : okV top v) (h1 : lv_has ls1 nL ((i, cV ad v) :: (lvL ad L).filter (fun q => !(q.1 == i) && !(q.1 + 1 == i && q.2.category == 2)))) : IL ad top nL (aset L i v) ls1 := by
  refine ⟨h1.1, by rw [aset, List.length_set, aclr_len]; exact h.2.1, h1.2.1, fun k w hk => ?_⟩
  unfold aset at hk
  by_cases hki : k = i
  · subst hki
    have hlt : k < (aclr L k).length := by
      have := (List.getElem?_eq_some_iff.mp hk).1
      rwa [List.length_set] at this
    rw [List.getElem?_set_self hlt] at hk
    cases hk
    exact Or.inr ⟨hv, h1.2.2 _ List.mem_cons_self⟩
  · rw [List.getElem?_set_ne (fun q => hki q.symm)] at hk
    rcases aclr_at hk with h9 | ⟨hL, hn⟩
    · exact Or.inl h9
    · rcases h.2.2.2 k w hL with h2 | h2
      · exact Or.inl h2
      · by_cases h9 : w.1 = 9
        · exact Or.inl h9
        · refine Or.inr ⟨h2.1, h1.2.2 (k, cV ad w) (List.mem_cons_of_mem _ (List.mem_filter.mpr ⟨lvL_mem hL h9, ?_⟩))⟩
          have hc : ¬ (k + 1 = i ∧ (cV ad w).category = 2) := by
            rintro ⟨q1, q2⟩
            rw [cV_cat h2.1] at q2
            refine hn ⟨q1, ?_⟩
            by_cases h5 : w.1 = 1
            · exact h5
            · rw [if_neg h5] at q2; cases q2
          simp only [Bool.and_eq_true, Bool.not_eq_true', beq_eq_false_iff_ne, ne_eq, Bool.and_eq_false_iff]
          refine ⟨hki, ?_⟩
          by_cases h5 : k + 1 = i
          · exact Or.inr (fun h6 => hc ⟨h5, h6⟩)
          · exact Or.inl h5
theorem IL.set2 {ad : Nat → Nat} {top nL : Nat} {L : List aV} {ls ls1 : Array Slot} {i : Nat} {v : aV} (h : IL ad top nL L ls) (hv : okV top v) (h1 : lv_has ls1 nL ((i, cV ad v) :: (lvL ad L).filter (fun q => !(q.1 == i) && (!(q.1 == i + 1) && !(q.1 + 1 == i && q.2.category == 2))))) : IL ad top nL (aset2 L i v) ls1 := by
  refine ⟨h1.1, by rw [aset2, List.length_set, List.length_set, aclr_len]; exact h.2.1, h1.2.1, fun k w hk => ?_⟩
  unfold aset2 at hk
  by_cases hk1 : k = i + 1
  · subst hk1
    have hlt := (List.getElem?_eq_some_iff.mp hk).1
    rw [List.length_set] at hlt
    rw [List.getElem?_set_self hlt] at hk
    cases hk
    exact Or.inl rfl
  · rw [List.getElem?_set_ne (fun q => hk1 q.symm)] at hk
    by_cases hki : k = i
    · subst hki
      have hlt : k < (aclr L k).length := by
        have := (List.getElem?_eq_some_iff.mp hk).1
        rwa [List.length_set] at this
      rw [List.getElem?_set_self hlt] at hk
      cases hk
      exact Or.inr ⟨hv, h1.2.2 _ List.mem_cons_self⟩
    · rw [List.getElem?_set_ne (fun q => hki q.symm)] at hk
      rcases aclr_at hk with h9 | ⟨hL, hn⟩
      · exact Or.inl h9
      · rcases h.2.2.2 k w hL with h2 | h2
        · exact Or.inl h2
        · by_cases h9 : w.1 = 9
          · exact Or.inl h9
          · refine Or.inr ⟨h2.1, h1.2.2 (k, cV ad w) (List.mem_cons_of_mem _ (List.mem_filter.mpr ⟨lvL_mem hL h9, ?_⟩))⟩
            have hc : ¬ (k + 1 = i ∧ (cV ad w).category = 2) := by
              rintro ⟨q1, q2⟩
              rw [cV_cat h2.1] at q2
              refine hn ⟨q1, ?_⟩
              by_cases h5 : w.1 = 1
              · exact h5
              · rw [if_neg h5] at q2; cases q2
            simp only [Bool.and_eq_true, Bool.not_eq_true', beq_eq_false_iff_ne, ne_eq, Bool.and_eq_false_iff]
            refine ⟨hki, hk1, ?_⟩
            by_cases h5 : k + 1 = i
            · exact Or.inr (fun h6 => hc ⟨h5, h6⟩)
            · exact Or.inl h5
theorem Iv.loc {D : va_G} {cA : Nat → ClassId} {A : Nat → Prop} {s : State} {ad0 ad : Nat → Nat} {M0 : aM} {t0 c0 u0 nL : Nat} {L L1 S S1 : List aV} {σ : aS} {H : Heap} {locs : List Loc} {ls ls1 : Array Slot} {cells slots : Nat} (h : Iv D cA A s ad0 M0 t0 c0 u0 nL ad L S σ H locs ls cells slots) (hL : IL ad σ.2.1 nL L1 ls1) (hS : ∀ v ∈ S1, okV σ.2.1 v) : Iv D cA A s ad0 M0 t0 c0 u0 nL ad L1 S1 σ H locs ls1 cells slots := ⟨h.1, hL, hS, h.2.2.2⟩
section Ops2
variable {p : Program} {l : Launch} {e : Env} {R : Room} {s : State} {m : MethodId} {args : Array Value} {below : List Frame} {meth : Method} {c : Code} {Q : State → Prop} {cc : ByteArray} {nL : Nat} {own : String} {D : va_G} {cA : Nat → ClassId} {A : Nat → Prop} {ad0 : Nat → Nat} {M0 : aM} {t0 c0 u0 : Nat} {pc : Nat} {L S : List aV} {σ : aS}
theorem k_astore_n (hC : Cx p s m args c cc nL own D cA A ad0 M0) (i : Fin 4) {v : Int} (hdg : decode cc pc = .ok (.astore_n i, 1)) (hi : i.val < L.length) (h0 : 0 ≤ v)
    (k : Gw p l e R s m args below meth c Q D cA A ad0 M0 t0 c0 u0 nL (pc + 1) (aset L i.val (2, v)) S σ) : Gw p l e R s m args below meth c Q D cA A ad0 M0 t0 c0 u0 nL (pc) L ((2, v) :: S) σ := by
  intro ad H locs ls cells slots hI
  obtain ⟨hx, hb, hml, hown, hts, hK, hA, hG⟩ := id hC
  have ho : okV σ.2.1 (2, v) := hI.2.2.1 _ List.mem_cons_self
  have hl := hI.2.1.2.1
  show W _ _ _ _ _ _ _ _ _ _ _ _ _ _ _ (F0 m pc ls (cV ad (2, v) :: S.map (cV ad)))
  have e2 := cV_2 ad h0
  rw [e2]
  refine lv_astore_n hx hb hdg rfl hI.2.1.has (by omega) rfl (fun ls1 h1 => ?_)
  rw [← e2] at h1
  exact k ad H locs ls1 cells slots (hI.loc (hI.2.1.set1 ho h1) (fun w hw => hI.2.2.1 w (List.mem_cons_of_mem _ hw)))
theorem k_astore (hC : Cx p s m args c cc nL own D cA A ad0 M0) (i : Nat) {v : Int} (hdg : decode cc pc = .ok (.astore i, 2)) (hi : i < L.length) (h0 : 0 ≤ v)
    (k : Gw p l e R s m args below meth c Q D cA A ad0 M0 t0 c0 u0 nL (pc + 2) (aset L i (2, v)) S σ) : Gw p l e R s m args below meth c Q D cA A ad0 M0 t0 c0 u0 nL (pc) L ((2, v) :: S) σ := by
  intro ad H locs ls cells slots hI
  obtain ⟨hx, hb, hml, hown, hts, hK, hA, hG⟩ := id hC
  have ho : okV σ.2.1 (2, v) := hI.2.2.1 _ List.mem_cons_self
  have hl := hI.2.1.2.1
  show W _ _ _ _ _ _ _ _ _ _ _ _ _ _ _ (F0 m pc ls (cV ad (2, v) :: S.map (cV ad)))
  have e2 := cV_2 ad h0
  rw [e2]
  refine lv_astore hx hb hdg hI.2.1.has (by omega) rfl (fun ls1 h1 => ?_)
  rw [← e2] at h1
  exact k ad H locs ls1 cells slots (hI.loc (hI.2.1.set1 ho h1) (fun w hw => hI.2.2.1 w (List.mem_cons_of_mem _ hw)))
theorem k_istore_n (hC : Cx p s m args c cc nL own D cA A ad0 M0) (i : Fin 4) {v : Int} (hdg : decode cc pc = .ok (.istore_n i, 1)) (hi : i.val < L.length)
    (k : Gw p l e R s m args below meth c Q D cA A ad0 M0 t0 c0 u0 nL (pc + 1) (aset L i.val (0, v)) S σ) : Gw p l e R s m args below meth c Q D cA A ad0 M0 t0 c0 u0 nL (pc) L ((0, v) :: S) σ := by
  intro ad H locs ls cells slots hI
  obtain ⟨hx, hb, hml, hown, hts, hK, hA, hG⟩ := id hC
  have ho : okV σ.2.1 (0, v) := hI.2.2.1 _ List.mem_cons_self
  have hl := hI.2.1.2.1
  refine lv_istore_n hx hb hdg rfl hI.2.1.has (by omega) rfl (fun ls1 h1 => ?_)
  exact k ad H locs ls1 cells slots (hI.loc (hI.2.1.set1 ho h1) (fun w hw => hI.2.2.1 w (List.mem_cons_of_mem _ hw)))
theorem k_istore (hC : Cx p s m args c cc nL own D cA A ad0 M0) (i : Nat) {v : Int} (hdg : decode cc pc = .ok (.istore i, 2)) (hi : i < L.length)
    (k : Gw p l e R s m args below meth c Q D cA A ad0 M0 t0 c0 u0 nL (pc + 2) (aset L i (0, v)) S σ) : Gw p l e R s m args below meth c Q D cA A ad0 M0 t0 c0 u0 nL (pc) L ((0, v) :: S) σ := by
  intro ad H locs ls cells slots hI
  obtain ⟨hx, hb, hml, hown, hts, hK, hA, hG⟩ := id hC
  have ho : okV σ.2.1 (0, v) := hI.2.2.1 _ List.mem_cons_self
  have hl := hI.2.1.2.1
  refine lv_istore hx hb hdg hI.2.1.has (by omega) rfl (fun ls1 h1 => ?_)
  exact k ad H locs ls1 cells slots (hI.loc (hI.2.1.set1 ho h1) (fun w hw => hI.2.2.1 w (List.mem_cons_of_mem _ hw)))
theorem k_lstore_n (hC : Cx p s m args c cc nL own D cA A ad0 M0) (i : Fin 4) {v : Int} (hdg : decode cc pc = .ok (.lstore_n i, 1)) (hi : i.val + 1 < L.length)
    (k : Gw p l e R s m args below meth c Q D cA A ad0 M0 t0 c0 u0 nL (pc + 1) (aset2 L i.val (1, v)) S σ) : Gw p l e R s m args below meth c Q D cA A ad0 M0 t0 c0 u0 nL (pc) L ((1, v) :: S) σ := by
  intro ad H locs ls cells slots hI
  obtain ⟨hx, hb, hml, hown, hts, hK, hA, hG⟩ := id hC
  have ho : okV σ.2.1 (1, v) := hI.2.2.1 _ List.mem_cons_self
  have hl := hI.2.1.2.1
  refine lv_lstore_n hx hb hdg rfl hI.2.1.has (by omega) rfl (fun ls1 h1 => ?_)
  exact k ad H locs ls1 cells slots (hI.loc (hI.2.1.set2 ho h1) (fun w hw => hI.2.2.1 w (List.mem_cons_of_mem _ hw)))
theorem k_lstore (hC : Cx p s m args c cc nL own D cA A ad0 M0) (i : Nat) {v : Int} (hdg : decode cc pc = .ok (.lstore i, 2)) (hi : i + 1 < L.length)
    (k : Gw p l e R s m args below meth c Q D cA A ad0 M0 t0 c0 u0 nL (pc + 2) (aset2 L i (1, v)) S σ) : Gw p l e R s m args below meth c Q D cA A ad0 M0 t0 c0 u0 nL (pc) L ((1, v) :: S) σ := by
  intro ad H locs ls cells slots hI
  obtain ⟨hx, hb, hml, hown, hts, hK, hA, hG⟩ := id hC
  have ho : okV σ.2.1 (1, v) := hI.2.2.1 _ List.mem_cons_self
  have hl := hI.2.1.2.1
  refine lv_lstore hx hb hdg hI.2.1.has (by omega) rfl (fun ls1 h1 => ?_)
  exact k ad H locs ls1 cells slots (hI.loc (hI.2.1.set2 ho h1) (fun w hw => hI.2.2.1 w (List.mem_cons_of_mem _ hw)))
theorem k_iinc (hC : Cx p s m args c cc nL own D cA A ad0 M0) (i : Nat) (n : Int) {v : Int} (hdg : decode cc pc = .ok (.iinc i n, 3)) (hi : i < L.length) (hg : aget L i 0 = some v) (hr : aIn (v + n))
    (k : Gw p l e R s m args below meth c Q D cA A ad0 M0 t0 c0 u0 nL (pc + 3) (aset L i (0, v + n)) S σ) : Gw p l e R s m args below meth c Q D cA A ad0 M0 t0 c0 u0 nL (pc) L S σ := by
  intro ad H locs ls cells slots hI
  obtain ⟨hx, hb, hml, hown, hts, hK, hA, hG⟩ := id hC
  have hl := hI.2.1.2.1
  have hm : (i, cV ad (0, v)) ∈ lvL ad L := lvL_mem (aget_some hg) (show (0 : Nat) ≠ 9 by decide)
  obtain ⟨j, hj⟩ := List.getElem?_of_mem hm
  refine lv_iinc (v := Int32.ofInt (v + n)) hx hb hdg hI.2.1.has hj (i32_add v n) (by omega) rfl (fun ls1 h1 => ?_)
  exact k ad H locs ls1 cells slots (hI.loc (hI.2.1.set1 (v := (0, v + n)) (okV_i hr) h1) hI.2.2.1)
theorem k_iconst (hC : Cx p s m args c cc nL own D cA A ad0 M0) (n : Int) (hr : aIn n) (hdg : decode cc pc = .ok (.iconst n, 1))
    (k : Gw p l e R s m args below meth c Q D cA A ad0 M0 t0 c0 u0 nL (pc + 1) L ((0, n) :: S) σ) : Gw p l e R s m args below meth c Q D cA A ad0 M0 t0 c0 u0 nL (pc) L S σ := by
  intro ad H locs ls cells slots hI
  obtain ⟨hx, hb, hml, hown, hts, hK, hA, hG⟩ := id hC
  refine lv_iconst hx hb hdg rfl ?_
  exact k ad H locs ls cells slots (hI.stk (okV_cons (okV_i hr) hI.2.2.1))
theorem k_bipush (hC : Cx p s m args c cc nL own D cA A ad0 M0) (n : Int) (hr : -128 ≤ n ∧ n < 128) (hdg : decode cc pc = .ok (.bipush n, 2))
    (k : Gw p l e R s m args below meth c Q D cA A ad0 M0 t0 c0 u0 nL (pc + 2) L ((0, n) :: S) σ) : Gw p l e R s m args below meth c Q D cA A ad0 M0 t0 c0 u0 nL (pc) L S σ := by
  intro ad H locs ls cells slots hI
  obtain ⟨hx, hb, hml, hown, hts, hK, hA, hG⟩ := id hC
  refine lv_bipush (v := Int32.ofInt n) hx hb hdg (by rw [← i32_of (Int8.ofInt n).toInt32, Int8.toInt_toInt32, Int8.toInt_ofInt_of_le (by omega) (by omega)]) ?_
  exact k ad H locs ls cells slots (hI.stk (okV_cons (okV_i ⟨by omega, by omega⟩) hI.2.2.1))
theorem k_sipush (hC : Cx p s m args c cc nL own D cA A ad0 M0) (n : Int) (hr : -32768 ≤ n ∧ n < 32768) (hdg : decode cc pc = .ok (.sipush n, 3))
    (k : Gw p l e R s m args below meth c Q D cA A ad0 M0 t0 c0 u0 nL (pc + 3) L ((0, n) :: S) σ) : Gw p l e R s m args below meth c Q D cA A ad0 M0 t0 c0 u0 nL (pc) L S σ := by
  intro ad H locs ls cells slots hI
  obtain ⟨hx, hb, hml, hown, hts, hK, hA, hG⟩ := id hC
  refine lv_sipush (v := Int32.ofInt n) hx hb hdg (by rw [← i32_of (Int16.ofInt n).toInt32, Int16.toInt_toInt32, Int16.toInt_ofInt_of_le (by omega) (by omega)]) ?_
  exact k ad H locs ls cells slots (hI.stk (okV_cons (okV_i ⟨by omega, by omega⟩) hI.2.2.1))
theorem k_lconst (hC : Cx p s m args c cc nL own D cA A ad0 M0) (n : Fin 2) (hdg : decode cc pc = .ok (.lconst n, 1))
    (k : Gw p l e R s m args below meth c Q D cA A ad0 M0 t0 c0 u0 nL (pc + 1) L ((1, (n.val : Int)) :: S) σ) : Gw p l e R s m args below meth c Q D cA A ad0 M0 t0 c0 u0 nL (pc) L S σ := by
  intro ad H locs ls cells slots hI
  obtain ⟨hx, hb, hml, hown, hts, hK, hA, hG⟩ := id hC
  refine lv_lconst (v := Int64.ofInt (n.val : Int)) hx hb hdg (by match n with | 0 => decide | 1 => decide) ?_
  exact k ad H locs ls cells slots (hI.stk (okV_cons (okV_l ⟨by have := n.isLt; omega, by have := n.isLt; omega⟩) hI.2.2.1))
theorem k_ldc (hC : Cx p s m args c cc nL own D cA A ad0 M0) (i : Nat) (x : Nat) (hr : (x : Int) < 2147483648) (hw : Cond.constant own i (Int32.ofInt x) ∈ gt) (hdg : decode cc pc = .ok (.ldc i, 2))
    (k : Gw p l e R s m args below meth c Q D cA A ad0 M0 t0 c0 u0 nL (pc + 2) L ((0, (x : Int)) :: S) σ) : Gw p l e R s m args below meth c Q D cA A ad0 M0 t0 c0 u0 nL (pc) L S σ := by
  intro ad H locs ls cells slots hI
  obtain ⟨hx, hb, hml, hown, hts, hK, hA, hG⟩ := id hC
  refine lv_ldc hx hb hown (hts _ hw) hdg ?_
  exact k ad H locs ls cells slots (hI.stk (okV_cons (okV_i ⟨by omega, by omega⟩) hI.2.2.1))
theorem k_ldc_w (hC : Cx p s m args c cc nL own D cA A ad0 M0) (i : Nat) (x : Nat) (hr : (x : Int) < 2147483648) (hw : Cond.constant own i (Int32.ofInt x) ∈ gt) (hdg : decode cc pc = .ok (.ldc_w i, 3))
    (k : Gw p l e R s m args below meth c Q D cA A ad0 M0 t0 c0 u0 nL (pc + 3) L ((0, (x : Int)) :: S) σ) : Gw p l e R s m args below meth c Q D cA A ad0 M0 t0 c0 u0 nL (pc) L S σ := by
  intro ad H locs ls cells slots hI
  obtain ⟨hx, hb, hml, hown, hts, hK, hA, hG⟩ := id hC
  refine lv_ldcw hx hb hown (hts _ hw) hdg ?_
  exact k ad H locs ls cells slots (hI.stk (okV_cons (okV_i ⟨by omega, by omega⟩) hI.2.2.1))
theorem k_ldc2_w (hC : Cx p s m args c cc nL own D cA A ad0 M0) (i : Nat) (x : Int) (hr : -2147483648 < x ∧ x < 2147483648) (hw : Cond.constantLong own i (Int64.ofInt x) ∈ gt) (hdg : decode cc pc = .ok (.ldc2_w i, 3))
    (k : Gw p l e R s m args below meth c Q D cA A ad0 M0 t0 c0 u0 nL (pc + 3) L ((1, x) :: S) σ) : Gw p l e R s m args below meth c Q D cA A ad0 M0 t0 c0 u0 nL (pc) L S σ := by
  intro ad H locs ls cells slots hI
  obtain ⟨hx, hb, hml, hown, hts, hK, hA, hG⟩ := id hC
  refine lv_ldc2 hx hb hown (hts _ hw) hdg ?_
  exact k ad H locs ls cells slots (hI.stk (okV_cons (okV_l ⟨by omega, by omega⟩) hI.2.2.1))
theorem k_iadd (hC : Cx p s m args c cc nL own D cA A ad0 M0) {a b : Int} (hdg : decode cc pc = .ok (.iadd, 1)) (hr : aIn (a + b))
    (k : Gw p l e R s m args below meth c Q D cA A ad0 M0 t0 c0 u0 nL (pc + 1) L ((0, a + b) :: S) σ) : Gw p l e R s m args below meth c Q D cA A ad0 M0 t0 c0 u0 nL (pc) L ((0, b) :: (0, a) :: S) σ := by
  intro ad H locs ls cells slots hI
  obtain ⟨hx, hb, hml, hown, hts, hK, hA, hG⟩ := id hC
  have hb1 : okV σ.2.1 (0, b) := hI.2.2.1 _ List.mem_cons_self
  have ha1 : okV σ.2.1 (0, a) := hI.2.2.1 _ (List.mem_cons_of_mem _ List.mem_cons_self)
  have hS : ∀ v ∈ S, okV σ.2.1 v := fun w hw => hI.2.2.1 w (List.mem_cons_of_mem _ (List.mem_cons_of_mem _ hw))
  refine lv_iadd hx hb hdg ?_
  rw [i32_add]
  exact k ad H locs ls cells slots (hI.stk (okV_cons (okV_i hr) hS))
theorem k_isub (hC : Cx p s m args c cc nL own D cA A ad0 M0) {a b : Int} (hdg : decode cc pc = .ok (.isub, 1)) (hr : aIn (a - b))
    (k : Gw p l e R s m args below meth c Q D cA A ad0 M0 t0 c0 u0 nL (pc + 1) L ((0, a - b) :: S) σ) : Gw p l e R s m args below meth c Q D cA A ad0 M0 t0 c0 u0 nL (pc) L ((0, b) :: (0, a) :: S) σ := by
  intro ad H locs ls cells slots hI
  obtain ⟨hx, hb, hml, hown, hts, hK, hA, hG⟩ := id hC
  have hb1 : okV σ.2.1 (0, b) := hI.2.2.1 _ List.mem_cons_self
  have ha1 : okV σ.2.1 (0, a) := hI.2.2.1 _ (List.mem_cons_of_mem _ List.mem_cons_self)
  have hS : ∀ v ∈ S, okV σ.2.1 v := fun w hw => hI.2.2.1 w (List.mem_cons_of_mem _ (List.mem_cons_of_mem _ hw))
  refine lv_isub hx hb hdg ?_
  rw [i32_sub]
  exact k ad H locs ls cells slots (hI.stk (okV_cons (okV_i hr) hS))
theorem k_imul (hC : Cx p s m args c cc nL own D cA A ad0 M0) {a b : Int} (hdg : decode cc pc = .ok (.imul, 1)) (hr : aIn (a * b))
    (k : Gw p l e R s m args below meth c Q D cA A ad0 M0 t0 c0 u0 nL (pc + 1) L ((0, a * b) :: S) σ) : Gw p l e R s m args below meth c Q D cA A ad0 M0 t0 c0 u0 nL (pc) L ((0, b) :: (0, a) :: S) σ := by
  intro ad H locs ls cells slots hI
  obtain ⟨hx, hb, hml, hown, hts, hK, hA, hG⟩ := id hC
  have hb1 : okV σ.2.1 (0, b) := hI.2.2.1 _ List.mem_cons_self
  have ha1 : okV σ.2.1 (0, a) := hI.2.2.1 _ (List.mem_cons_of_mem _ List.mem_cons_self)
  have hS : ∀ v ∈ S, okV σ.2.1 v := fun w hw => hI.2.2.1 w (List.mem_cons_of_mem _ (List.mem_cons_of_mem _ hw))
  refine lv_imul hx hb hdg ?_
  rw [i32_mul]
  exact k ad H locs ls cells slots (hI.stk (okV_cons (okV_i hr) hS))
theorem k_ladd (hC : Cx p s m args c cc nL own D cA A ad0 M0) {a b : Int} (hdg : decode cc pc = .ok (.ladd, 1)) (hr : aInL (a + b))
    (k : Gw p l e R s m args below meth c Q D cA A ad0 M0 t0 c0 u0 nL (pc + 1) L ((1, a + b) :: S) σ) : Gw p l e R s m args below meth c Q D cA A ad0 M0 t0 c0 u0 nL (pc) L ((1, b) :: (1, a) :: S) σ := by
  intro ad H locs ls cells slots hI
  obtain ⟨hx, hb, hml, hown, hts, hK, hA, hG⟩ := id hC
  have hb1 : okV σ.2.1 (1, b) := hI.2.2.1 _ List.mem_cons_self
  have ha1 : okV σ.2.1 (1, a) := hI.2.2.1 _ (List.mem_cons_of_mem _ List.mem_cons_self)
  have hS : ∀ v ∈ S, okV σ.2.1 v := fun w hw => hI.2.2.1 w (List.mem_cons_of_mem _ (List.mem_cons_of_mem _ hw))
  refine lv_ladd hx hb hdg ?_
  rw [i64_add]
  exact k ad H locs ls cells slots (hI.stk (okV_cons (okV_l hr) hS))
theorem k_lsub (hC : Cx p s m args c cc nL own D cA A ad0 M0) {a b : Int} (hdg : decode cc pc = .ok (.lsub, 1)) (hr : aInL (a - b))
    (k : Gw p l e R s m args below meth c Q D cA A ad0 M0 t0 c0 u0 nL (pc + 1) L ((1, a - b) :: S) σ) : Gw p l e R s m args below meth c Q D cA A ad0 M0 t0 c0 u0 nL (pc) L ((1, b) :: (1, a) :: S) σ := by
  intro ad H locs ls cells slots hI
  obtain ⟨hx, hb, hml, hown, hts, hK, hA, hG⟩ := id hC
  have hb1 : okV σ.2.1 (1, b) := hI.2.2.1 _ List.mem_cons_self
  have ha1 : okV σ.2.1 (1, a) := hI.2.2.1 _ (List.mem_cons_of_mem _ List.mem_cons_self)
  have hS : ∀ v ∈ S, okV σ.2.1 v := fun w hw => hI.2.2.1 w (List.mem_cons_of_mem _ (List.mem_cons_of_mem _ hw))
  refine lv_lsub hx hb hdg ?_
  rw [i64_sub]
  exact k ad H locs ls cells slots (hI.stk (okV_cons (okV_l hr) hS))
theorem k_lmul (hC : Cx p s m args c cc nL own D cA A ad0 M0) {a b : Int} (hdg : decode cc pc = .ok (.lmul, 1)) (hr : aInL (a * b))
    (k : Gw p l e R s m args below meth c Q D cA A ad0 M0 t0 c0 u0 nL (pc + 1) L ((1, a * b) :: S) σ) : Gw p l e R s m args below meth c Q D cA A ad0 M0 t0 c0 u0 nL (pc) L ((1, b) :: (1, a) :: S) σ := by
  intro ad H locs ls cells slots hI
  obtain ⟨hx, hb, hml, hown, hts, hK, hA, hG⟩ := id hC
  have hb1 : okV σ.2.1 (1, b) := hI.2.2.1 _ List.mem_cons_self
  have ha1 : okV σ.2.1 (1, a) := hI.2.2.1 _ (List.mem_cons_of_mem _ List.mem_cons_self)
  have hS : ∀ v ∈ S, okV σ.2.1 v := fun w hw => hI.2.2.1 w (List.mem_cons_of_mem _ (List.mem_cons_of_mem _ hw))
  refine lv_lmul hx hb hdg ?_
  rw [i64_mul]
  exact k ad H locs ls cells slots (hI.stk (okV_cons (okV_l hr) hS))
theorem k_iand (hC : Cx p s m args c cc nL own D cA A ad0 M0) {a b : Int} (hdg : decode cc pc = .ok (.iand, 1))
    (k : Gw p l e R s m args below meth c Q D cA A ad0 M0 t0 c0 u0 nL (pc + 1) L ((0, aand a b) :: S) σ) : Gw p l e R s m args below meth c Q D cA A ad0 M0 t0 c0 u0 nL (pc) L ((0, b) :: (0, a) :: S) σ := by
  intro ad H locs ls cells slots hI
  obtain ⟨hx, hb, hml, hown, hts, hK, hA, hG⟩ := id hC
  have hb1 : okV σ.2.1 (0, b) := hI.2.2.1 _ List.mem_cons_self
  have ha1 : okV σ.2.1 (0, a) := hI.2.2.1 _ (List.mem_cons_of_mem _ List.mem_cons_self)
  have hS : ∀ v ∈ S, okV σ.2.1 v := fun w hw => hI.2.2.1 w (List.mem_cons_of_mem _ (List.mem_cons_of_mem _ hw))
  refine lv_iand hx hb hdg ?_
  refine W.eq (congrArg (fun z => F0 m (pc + 1) ls (Value.int z :: S.map (cV ad))) (i32_of _).symm) ?_
  exact k ad H locs ls cells slots (hI.stk (okV_cons (okV_i (i32_rng _)) hS))
theorem k_ior (hC : Cx p s m args c cc nL own D cA A ad0 M0) {a b : Int} (hdg : decode cc pc = .ok (.ior, 1))
    (k : Gw p l e R s m args below meth c Q D cA A ad0 M0 t0 c0 u0 nL (pc + 1) L ((0, aor a b) :: S) σ) : Gw p l e R s m args below meth c Q D cA A ad0 M0 t0 c0 u0 nL (pc) L ((0, b) :: (0, a) :: S) σ := by
  intro ad H locs ls cells slots hI
  obtain ⟨hx, hb, hml, hown, hts, hK, hA, hG⟩ := id hC
  have hb1 : okV σ.2.1 (0, b) := hI.2.2.1 _ List.mem_cons_self
  have ha1 : okV σ.2.1 (0, a) := hI.2.2.1 _ (List.mem_cons_of_mem _ List.mem_cons_self)
  have hS : ∀ v ∈ S, okV σ.2.1 v := fun w hw => hI.2.2.1 w (List.mem_cons_of_mem _ (List.mem_cons_of_mem _ hw))
  refine lv_ior hx hb hdg ?_
  refine W.eq (congrArg (fun z => F0 m (pc + 1) ls (Value.int z :: S.map (cV ad))) (i32_of _).symm) ?_
  exact k ad H locs ls cells slots (hI.stk (okV_cons (okV_i (i32_rng _)) hS))
theorem k_ixor (hC : Cx p s m args c cc nL own D cA A ad0 M0) {a b : Int} (hdg : decode cc pc = .ok (.ixor, 1))
    (k : Gw p l e R s m args below meth c Q D cA A ad0 M0 t0 c0 u0 nL (pc + 1) L ((0, axor a b) :: S) σ) : Gw p l e R s m args below meth c Q D cA A ad0 M0 t0 c0 u0 nL (pc) L ((0, b) :: (0, a) :: S) σ := by
  intro ad H locs ls cells slots hI
  obtain ⟨hx, hb, hml, hown, hts, hK, hA, hG⟩ := id hC
  have hb1 : okV σ.2.1 (0, b) := hI.2.2.1 _ List.mem_cons_self
  have ha1 : okV σ.2.1 (0, a) := hI.2.2.1 _ (List.mem_cons_of_mem _ List.mem_cons_self)
  have hS : ∀ v ∈ S, okV σ.2.1 v := fun w hw => hI.2.2.1 w (List.mem_cons_of_mem _ (List.mem_cons_of_mem _ hw))
  refine lv_ixor hx hb hdg ?_
  refine W.eq (congrArg (fun z => F0 m (pc + 1) ls (Value.int z :: S.map (cV ad))) (i32_of _).symm) ?_
  exact k ad H locs ls cells slots (hI.stk (okV_cons (okV_i (i32_rng _)) hS))
theorem k_ishl (hC : Cx p s m args c cc nL own D cA A ad0 M0) {a b : Int} (hdg : decode cc pc = .ok (.ishl, 1))
    (k : Gw p l e R s m args below meth c Q D cA A ad0 M0 t0 c0 u0 nL (pc + 1) L ((0, ashl a b) :: S) σ) : Gw p l e R s m args below meth c Q D cA A ad0 M0 t0 c0 u0 nL (pc) L ((0, b) :: (0, a) :: S) σ := by
  intro ad H locs ls cells slots hI
  obtain ⟨hx, hb, hml, hown, hts, hK, hA, hG⟩ := id hC
  have hb1 : okV σ.2.1 (0, b) := hI.2.2.1 _ List.mem_cons_self
  have ha1 : okV σ.2.1 (0, a) := hI.2.2.1 _ (List.mem_cons_of_mem _ List.mem_cons_self)
  have hS : ∀ v ∈ S, okV σ.2.1 v := fun w hw => hI.2.2.1 w (List.mem_cons_of_mem _ (List.mem_cons_of_mem _ hw))
  refine lv_ishl hx hb hdg ?_
  refine W.eq (congrArg (fun z => F0 m (pc + 1) ls (Value.int z :: S.map (cV ad))) (i32_of _).symm) ?_
  exact k ad H locs ls cells slots (hI.stk (okV_cons (okV_i (i32_rng _)) hS))
theorem k_ishr (hC : Cx p s m args c cc nL own D cA A ad0 M0) {a b : Int} (hdg : decode cc pc = .ok (.ishr, 1))
    (k : Gw p l e R s m args below meth c Q D cA A ad0 M0 t0 c0 u0 nL (pc + 1) L ((0, ashr a b) :: S) σ) : Gw p l e R s m args below meth c Q D cA A ad0 M0 t0 c0 u0 nL (pc) L ((0, b) :: (0, a) :: S) σ := by
  intro ad H locs ls cells slots hI
  obtain ⟨hx, hb, hml, hown, hts, hK, hA, hG⟩ := id hC
  have hb1 : okV σ.2.1 (0, b) := hI.2.2.1 _ List.mem_cons_self
  have ha1 : okV σ.2.1 (0, a) := hI.2.2.1 _ (List.mem_cons_of_mem _ List.mem_cons_self)
  have hS : ∀ v ∈ S, okV σ.2.1 v := fun w hw => hI.2.2.1 w (List.mem_cons_of_mem _ (List.mem_cons_of_mem _ hw))
  refine lv_ishr hx hb hdg ?_
  refine W.eq (congrArg (fun z => F0 m (pc + 1) ls (Value.int z :: S.map (cV ad))) (i32_of _).symm) ?_
  exact k ad H locs ls cells slots (hI.stk (okV_cons (okV_i (i32_rng _)) hS))
theorem k_iushr (hC : Cx p s m args c cc nL own D cA A ad0 M0) {a b : Int} (hdg : decode cc pc = .ok (.iushr, 1))
    (k : Gw p l e R s m args below meth c Q D cA A ad0 M0 t0 c0 u0 nL (pc + 1) L ((0, aushr a b) :: S) σ) : Gw p l e R s m args below meth c Q D cA A ad0 M0 t0 c0 u0 nL (pc) L ((0, b) :: (0, a) :: S) σ := by
  intro ad H locs ls cells slots hI
  obtain ⟨hx, hb, hml, hown, hts, hK, hA, hG⟩ := id hC
  have hb1 : okV σ.2.1 (0, b) := hI.2.2.1 _ List.mem_cons_self
  have ha1 : okV σ.2.1 (0, a) := hI.2.2.1 _ (List.mem_cons_of_mem _ List.mem_cons_self)
  have hS : ∀ v ∈ S, okV σ.2.1 v := fun w hw => hI.2.2.1 w (List.mem_cons_of_mem _ (List.mem_cons_of_mem _ hw))
  refine lv_iushr (v := Int32.ofInt (aushr a b)) hx hb hdg (i32_of _).symm ?_
  exact k ad H locs ls cells slots (hI.stk (okV_cons (okV_i (i32_rng _)) hS))
theorem k_idiv (hC : Cx p s m args c cc nL own D cA A ad0 M0) {a b : Int} (hdg : decode cc pc = .ok (.idiv, 1)) (hne : b ≠ 0)
    (k : Gw p l e R s m args below meth c Q D cA A ad0 M0 t0 c0 u0 nL (pc + 1) L ((0, adiv a b) :: S) σ) : Gw p l e R s m args below meth c Q D cA A ad0 M0 t0 c0 u0 nL (pc) L ((0, b) :: (0, a) :: S) σ := by
  intro ad H locs ls cells slots hI
  obtain ⟨hx, hb, hml, hown, hts, hK, hA, hG⟩ := id hC
  have hb1 : okV σ.2.1 (0, b) := hI.2.2.1 _ List.mem_cons_self
  have ha1 : okV σ.2.1 (0, a) := hI.2.2.1 _ (List.mem_cons_of_mem _ List.mem_cons_self)
  have hS : ∀ v ∈ S, okV σ.2.1 v := fun w hw => hI.2.2.1 w (List.mem_cons_of_mem _ (List.mem_cons_of_mem _ hw))
  refine lv_idiv hx hb hdg (fun h => hne ((i32_eq (okV_int hb1) ⟨by omega, by omega⟩).mp h)) ?_
  refine W.eq (congrArg (fun z => F0 m (pc + 1) ls (Value.int z :: S.map (cV ad))) (i32_of _).symm) ?_
  exact k ad H locs ls cells slots (hI.stk (okV_cons (okV_i (i32_rng _)) hS))
theorem k_irem (hC : Cx p s m args c cc nL own D cA A ad0 M0) {a b : Int} (hdg : decode cc pc = .ok (.irem, 1)) (hne : b ≠ 0)
    (k : Gw p l e R s m args below meth c Q D cA A ad0 M0 t0 c0 u0 nL (pc + 1) L ((0, arem a b) :: S) σ) : Gw p l e R s m args below meth c Q D cA A ad0 M0 t0 c0 u0 nL (pc) L ((0, b) :: (0, a) :: S) σ := by
  intro ad H locs ls cells slots hI
  obtain ⟨hx, hb, hml, hown, hts, hK, hA, hG⟩ := id hC
  have hb1 : okV σ.2.1 (0, b) := hI.2.2.1 _ List.mem_cons_self
  have ha1 : okV σ.2.1 (0, a) := hI.2.2.1 _ (List.mem_cons_of_mem _ List.mem_cons_self)
  have hS : ∀ v ∈ S, okV σ.2.1 v := fun w hw => hI.2.2.1 w (List.mem_cons_of_mem _ (List.mem_cons_of_mem _ hw))
  refine lv_irem hx hb hdg (fun h => hne ((i32_eq (okV_int hb1) ⟨by omega, by omega⟩).mp h)) ?_
  refine W.eq (congrArg (fun z => F0 m (pc + 1) ls (Value.int z :: S.map (cV ad))) (i32_of _).symm) ?_
  exact k ad H locs ls cells slots (hI.stk (okV_cons (okV_i (i32_rng _)) hS))
theorem k_ldiv (hC : Cx p s m args c cc nL own D cA A ad0 M0) {a b : Int} (hdg : decode cc pc = .ok (.ldiv, 1)) (hne : b ≠ 0)
    (k : Gw p l e R s m args below meth c Q D cA A ad0 M0 t0 c0 u0 nL (pc + 1) L ((1, aldiv a b) :: S) σ) : Gw p l e R s m args below meth c Q D cA A ad0 M0 t0 c0 u0 nL (pc) L ((1, b) :: (1, a) :: S) σ := by
  intro ad H locs ls cells slots hI
  obtain ⟨hx, hb, hml, hown, hts, hK, hA, hG⟩ := id hC
  have hb1 : okV σ.2.1 (1, b) := hI.2.2.1 _ List.mem_cons_self
  have ha1 : okV σ.2.1 (1, a) := hI.2.2.1 _ (List.mem_cons_of_mem _ List.mem_cons_self)
  have hS : ∀ v ∈ S, okV σ.2.1 v := fun w hw => hI.2.2.1 w (List.mem_cons_of_mem _ (List.mem_cons_of_mem _ hw))
  refine lv_ldiv hx hb hdg (fun h => hne (by have h2 := congrArg Int64.toInt h; rw [i64_toInt (okV_long hb1)] at h2; exact h2)) ?_
  refine W.eq (congrArg (fun z => F0 m (pc + 1) ls (Value.long z :: S.map (cV ad))) (i64_of _).symm) ?_
  exact k ad H locs ls cells slots (hI.stk (okV_cons (okV_l (i64_rng _)) hS))
theorem k_lrem (hC : Cx p s m args c cc nL own D cA A ad0 M0) {a b : Int} (hdg : decode cc pc = .ok (.lrem, 1)) (hne : b ≠ 0)
    (k : Gw p l e R s m args below meth c Q D cA A ad0 M0 t0 c0 u0 nL (pc + 1) L ((1, alrem a b) :: S) σ) : Gw p l e R s m args below meth c Q D cA A ad0 M0 t0 c0 u0 nL (pc) L ((1, b) :: (1, a) :: S) σ := by
  intro ad H locs ls cells slots hI
  obtain ⟨hx, hb, hml, hown, hts, hK, hA, hG⟩ := id hC
  have hb1 : okV σ.2.1 (1, b) := hI.2.2.1 _ List.mem_cons_self
  have ha1 : okV σ.2.1 (1, a) := hI.2.2.1 _ (List.mem_cons_of_mem _ List.mem_cons_self)
  have hS : ∀ v ∈ S, okV σ.2.1 v := fun w hw => hI.2.2.1 w (List.mem_cons_of_mem _ (List.mem_cons_of_mem _ hw))
  refine lv_lrem hx hb hdg (fun h => hne (by have h2 := congrArg Int64.toInt h; rw [i64_toInt (okV_long hb1)] at h2; exact h2)) ?_
  refine W.eq (congrArg (fun z => F0 m (pc + 1) ls (Value.long z :: S.map (cV ad))) (i64_of _).symm) ?_
  exact k ad H locs ls cells slots (hI.stk (okV_cons (okV_l (i64_rng _)) hS))
theorem k_lcmp (hC : Cx p s m args c cc nL own D cA A ad0 M0) {a b : Int} (hdg : decode cc pc = .ok (.lcmp, 1))
    (k : Gw p l e R s m args below meth c Q D cA A ad0 M0 t0 c0 u0 nL (pc + 1) L ((0, alcmp a b) :: S) σ) : Gw p l e R s m args below meth c Q D cA A ad0 M0 t0 c0 u0 nL (pc) L ((1, b) :: (1, a) :: S) σ := by
  intro ad H locs ls cells slots hI
  obtain ⟨hx, hb, hml, hown, hts, hK, hA, hG⟩ := id hC
  have hb1 : okV σ.2.1 (1, b) := hI.2.2.1 _ List.mem_cons_self
  have ha1 : okV σ.2.1 (1, a) := hI.2.2.1 _ (List.mem_cons_of_mem _ List.mem_cons_self)
  have hS : ∀ v ∈ S, okV σ.2.1 v := fun w hw => hI.2.2.1 w (List.mem_cons_of_mem _ (List.mem_cons_of_mem _ hw))
  refine W.lcmp hx hb hdg ?_
  rw [lg_cmp_a (okV_long ha1) (okV_long hb1)]
  exact k ad H locs ls cells slots (hI.stk (okV_cons (okV_i (alcmp_in a b)) hS))
theorem k_ineg (hC : Cx p s m args c cc nL own D cA A ad0 M0) {a : Int} (hdg : decode cc pc = .ok (.ineg, 1)) (hr : aIn (-a))
    (k : Gw p l e R s m args below meth c Q D cA A ad0 M0 t0 c0 u0 nL (pc + 1) L ((0, -a) :: S) σ) : Gw p l e R s m args below meth c Q D cA A ad0 M0 t0 c0 u0 nL (pc) L ((0, a) :: S) σ := by
  intro ad H locs ls cells slots hI
  obtain ⟨hx, hb, hml, hown, hts, hK, hA, hG⟩ := id hC
  have ha1 : okV σ.2.1 (0, a) := hI.2.2.1 _ List.mem_cons_self
  have hS : ∀ v ∈ S, okV σ.2.1 v := fun w hw => hI.2.2.1 w (List.mem_cons_of_mem _ hw)
  refine lv_ineg hx hb hdg ?_
  rw [i32_neg]
  exact k ad H locs ls cells slots (hI.stk (okV_cons (okV_i hr) hS))
theorem k_i2l (hC : Cx p s m args c cc nL own D cA A ad0 M0) {a : Int} (hdg : decode cc pc = .ok (.i2l, 1))
    (k : Gw p l e R s m args below meth c Q D cA A ad0 M0 t0 c0 u0 nL (pc + 1) L ((1, a) :: S) σ) : Gw p l e R s m args below meth c Q D cA A ad0 M0 t0 c0 u0 nL (pc) L ((0, a) :: S) σ := by
  intro ad H locs ls cells slots hI
  obtain ⟨hx, hb, hml, hown, hts, hK, hA, hG⟩ := id hC
  have ha1 : okV σ.2.1 (0, a) := hI.2.2.1 _ List.mem_cons_self
  have hS : ∀ v ∈ S, okV σ.2.1 v := fun w hw => hI.2.2.1 w (List.mem_cons_of_mem _ hw)
  refine lv_i2l (v := Int64.ofInt a) hx hb hdg (by rw [← i64_of (Int32.ofInt a).toInt64, Int32.toInt_toInt64, i32_toInt (okV_int ha1)]) ?_
  exact k ad H locs ls cells slots (hI.stk (okV_cons (okV_l ⟨by have := okV_int ha1; omega, by have := okV_int ha1; omega⟩) hS))
theorem k_l2i (hC : Cx p s m args c cc nL own D cA A ad0 M0) {a : Int} (hdg : decode cc pc = .ok (.l2i, 1)) (hr : aIn a)
    (k : Gw p l e R s m args below meth c Q D cA A ad0 M0 t0 c0 u0 nL (pc + 1) L ((0, a) :: S) σ) : Gw p l e R s m args below meth c Q D cA A ad0 M0 t0 c0 u0 nL (pc) L ((1, a) :: S) σ := by
  intro ad H locs ls cells slots hI
  obtain ⟨hx, hb, hml, hown, hts, hK, hA, hG⟩ := id hC
  have ha1 : okV σ.2.1 (1, a) := hI.2.2.1 _ List.mem_cons_self
  have hS : ∀ v ∈ S, okV σ.2.1 v := fun w hw => hI.2.2.1 w (List.mem_cons_of_mem _ hw)
  refine lv_l2i (v := Int32.ofInt a) hx hb hdg (by rw [Int64.toInt32_ofInt]) ?_
  exact k ad H locs ls cells slots (hI.stk (okV_cons (okV_i hr) hS))
theorem k_i2b (hC : Cx p s m args c cc nL own D cA A ad0 M0) {a : Int} (hdg : decode cc pc = .ok (.i2b, 1))
    (k : Gw p l e R s m args below meth c Q D cA A ad0 M0 t0 c0 u0 nL (pc + 1) L ((0, ai2b a) :: S) σ) : Gw p l e R s m args below meth c Q D cA A ad0 M0 t0 c0 u0 nL (pc) L ((0, a) :: S) σ := by
  intro ad H locs ls cells slots hI
  obtain ⟨hx, hb, hml, hown, hts, hK, hA, hG⟩ := id hC
  have ha1 : okV σ.2.1 (0, a) := hI.2.2.1 _ List.mem_cons_self
  have hS : ∀ v ∈ S, okV σ.2.1 v := fun w hw => hI.2.2.1 w (List.mem_cons_of_mem _ hw)
  refine lv_i2b (v := Int32.ofInt (ai2b a)) hx hb hdg (i32_of _).symm ?_
  exact k ad H locs ls cells slots (hI.stk (okV_cons (okV_i (i32_rng _)) hS))
theorem k_dup (hC : Cx p s m args c cc nL own D cA A ad0 M0) {v : aV} (hdg : decode cc pc = .ok (.dup, 1)) (ht : v.1 = 0 ∨ v.1 = 2)
    (k : Gw p l e R s m args below meth c Q D cA A ad0 M0 t0 c0 u0 nL (pc + 1) L (v :: v :: S) σ) : Gw p l e R s m args below meth c Q D cA A ad0 M0 t0 c0 u0 nL (pc) L (v :: S) σ := by
  intro ad H locs ls cells slots hI
  obtain ⟨hx, hb, hml, hown, hts, hK, hA, hG⟩ := id hC
  have hv : okV σ.2.1 v := hI.2.2.1 _ List.mem_cons_self
  refine lv_dup hx hb hdg (by rw [cV_cat hv, if_neg (by omega)]) ?_
  exact k ad H locs ls cells slots (hI.stk (okV_cons hv hI.2.2.1))
theorem k_dup2l (hC : Cx p s m args c cc nL own D cA A ad0 M0) {v : aV} (hdg : decode cc pc = .ok (.dup2, 1)) (ht : v.1 = 1)
    (k : Gw p l e R s m args below meth c Q D cA A ad0 M0 t0 c0 u0 nL (pc + 1) L (v :: v :: S) σ) : Gw p l e R s m args below meth c Q D cA A ad0 M0 t0 c0 u0 nL (pc) L (v :: S) σ := by
  intro ad H locs ls cells slots hI
  obtain ⟨hx, hb, hml, hown, hts, hK, hA, hG⟩ := id hC
  have hv : okV σ.2.1 v := hI.2.2.1 _ List.mem_cons_self
  refine lv_dup2_2 hx hb hdg (by rw [cV_cat hv, if_pos ht]) ?_
  exact k ad H locs ls cells slots (hI.stk (okV_cons hv hI.2.2.1))
theorem k_dup2 (hC : Cx p s m args c cc nL own D cA A ad0 M0) {v w : aV} (hdg : decode cc pc = .ok (.dup2, 1)) (ht : v.1 = 0 ∨ v.1 = 2) (hu : w.1 = 0 ∨ w.1 = 2)
    (k : Gw p l e R s m args below meth c Q D cA A ad0 M0 t0 c0 u0 nL (pc + 1) L (v :: w :: v :: w :: S) σ) : Gw p l e R s m args below meth c Q D cA A ad0 M0 t0 c0 u0 nL (pc) L (v :: w :: S) σ := by
  intro ad H locs ls cells slots hI
  obtain ⟨hx, hb, hml, hown, hts, hK, hA, hG⟩ := id hC
  have hv : okV σ.2.1 v := hI.2.2.1 _ List.mem_cons_self
  have hw : okV σ.2.1 w := hI.2.2.1 _ (List.mem_cons_of_mem _ List.mem_cons_self)
  refine lv_dup2_11 hx hb hdg (by rw [cV_cat hv, if_neg (by omega)]) (by rw [cV_cat hw, if_neg (by omega)]) ?_
  exact k ad H locs ls cells slots (hI.stk (okV_cons hv (okV_cons hw hI.2.2.1)))
theorem k_pop (hC : Cx p s m args c cc nL own D cA A ad0 M0) {v : aV} (hdg : decode cc pc = .ok (.pop, 1)) (ht : v.1 = 0 ∨ v.1 = 2)
    (k : Gw p l e R s m args below meth c Q D cA A ad0 M0 t0 c0 u0 nL (pc + 1) L S σ) : Gw p l e R s m args below meth c Q D cA A ad0 M0 t0 c0 u0 nL (pc) L (v :: S) σ := by
  intro ad H locs ls cells slots hI
  obtain ⟨hx, hb, hml, hown, hts, hK, hA, hG⟩ := id hC
  have hv : okV σ.2.1 v := hI.2.2.1 _ List.mem_cons_self
  refine lv_pop hx hb hdg (by rw [cV_cat hv, if_neg (by omega)]) ?_
  exact k ad H locs ls cells slots (hI.stk (fun w hw => hI.2.2.1 w (List.mem_cons_of_mem _ hw)))
end Ops2

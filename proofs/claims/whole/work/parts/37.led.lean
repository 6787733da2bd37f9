/-! ===== the one call that may throw: WellVoice.led, and the law's own method that catches ===== -/
def nse : String := "java/util/NoSuchElementException"
def nseUp : List String := ["java/lang/RuntimeException", "java/lang/Exception"]
theorem bkH : bkOk 334 = true := by
  refine List.all_eq_true.mpr (fun q hq => ?_)
  obtain ⟨i, hi⟩ := List.getElem?_of_mem hq
  have hlen : (mBk.getD 334 []).length ≤ 86 := by decide +kernel
  have hil : i < (mBk.getD 334 []).length := (List.getElem?_eq_some_iff.mp hi).1
  have piece : ∀ a n, bkPc a n = true → a ≤ i → i < a + n → chkOps (mC 334) (mK 334) (decide ((mY 334).name = "<init>")) (mR 334) q.1 q.2 = true := by
    intro a n h h1 h2
    refine List.all_eq_true.mp h q (List.mem_of_getElem? (i := i - a) ?_)
    rw [List.getElem?_take, if_pos (by omega), List.getElem?_drop, show a + (i - a) = i by omega]
    exact hi
  rcases (by omega : (0 ≤ i ∧ i < 14) ∨ (14 ≤ i ∧ i < 26) ∨ (26 ≤ i ∧ i < 36) ∨ (36 ≤ i ∧ i < 44) ∨ (44 ≤ i ∧ i < 52) ∨ (52 ≤ i ∧ i < 59) ∨ (59 ≤ i ∧ i < 66) ∨ (66 ≤ i ∧ i < 72) ∨ (72 ≤ i ∧ i < 78) ∨ (78 ≤ i ∧ i < 82) ∨ (82 ≤ i ∧ i < 86)) with h | h | h | h | h | h | h | h | h | h | h
  · exact piece 0 14 bkH1 (by omega) (by omega)
  · exact piece 14 12 bkH2 (by omega) (by omega)
  · exact piece 26 10 bkH3 (by omega) (by omega)
  · exact piece 36 8 bkH4 (by omega) (by omega)
  · exact piece 44 8 bkH5 (by omega) (by omega)
  · exact piece 52 7 bkH6 (by omega) (by omega)
  · exact piece 59 7 bkH7 (by omega) (by omega)
  · exact piece 66 6 bkH8 (by omega) (by omega)
  · exact piece 72 6 bkH9 (by omega) (by omega)
  · exact piece 78 4 bkH10 (by omega) (by omega)
  · exact piece 82 4 bkH11 (by omega) (by omega)
theorem hB_all : ∀ j pc ops, aB j pc = some ops → okOps j pc ops := by
  intro j pc ops h
  by_cases hj : j < 335
  · refine bkOk_all hj ?_ pc ops h
    have key : ∀ a n, (List.range' a n).all bkOk = true → ∀ i, a ≤ i → i < a + n → bkOk i = true := fun a n h i h1 h2 => List.all_eq_true.mp h i (List.mem_range'_1.mpr ⟨h1, h2⟩)
    rcases (by omega : j < 40 ∨ (40 ≤ j ∧ j < 90) ∨ (90 ≤ j ∧ j < 140) ∨ (140 ≤ j ∧ j < 180) ∨ (180 ≤ j ∧ j < 230) ∨ (230 ≤ j ∧ j < 247) ∨ (247 ≤ j ∧ j < 264) ∨ (264 ≤ j ∧ j < 280) ∨ (280 ≤ j ∧ j < 298) ∨ (298 ≤ j ∧ j < 316) ∨ (316 ≤ j ∧ j < 334) ∨ j = 334) with h | h | h | h | h | h | h | h | h | h | h | h
    · exact key 0 40 bkA j (by omega) (by omega)
    · exact key 40 50 bkB j (by omega) (by omega)
    · exact key 90 50 bkC j (by omega) (by omega)
    · exact key 140 40 bkD j (by omega) (by omega)
    · exact key 180 50 bkE j (by omega) (by omega)
    · exact key 230 17 bkF1 j (by omega) (by omega)
    · exact key 247 17 bkF2 j (by omega) (by omega)
    · exact key 264 16 bkF3 j (by omega) (by omega)
    · exact key 280 18 bkG1 j (by omega) (by omega)
    · exact key 298 18 bkG2 j (by omega) (by omega)
    · exact key 316 18 bkG3 j (by omega) (by omega)
    · subst h; exact bkH
  · unfold aB at h
    have e : mBk.length = 335 := by decide +kernel
    rw [List.getD_eq_getElem?_getD, List.getElem?_eq_none (by omega)] at h
    cases h
/-- led's own contract: it returns, or throws -/
def XcA (D : va_G) (cA : Nat → ClassId) (ad : Nat → Nat) (σ : aS) (rv : aV) (σ1 : aS) (A1 : Nat → Prop) : String → State → State → Prop := fun E st t => E = nse ∧ rv.1 = 7 ∧ (∃ ad1, PostA D cA ad σ none σ1 A1 ad1 t) ∧ va_F A1 st t
theorem gx_hat : ∀ w ∈ (vx_at0 RX11 379 nse nseUp).filter goodWord, w ∈ gt := by
  intro w hw
  have h : ((vx_at0 RX11 379 nse nseUp).filter goodWord).all (fun w => decide (w ∈ lw_tbl) && goodWord w) = true := by decide +kernel
  have h1 := List.all_eq_true.mp h w hw
  simp only [Bool.and_eq_true, decide_eq_true_eq] at h1
  exact List.mem_filter.mpr h1
theorem gx_rest : ∀ w ∈ (vx_at0 RX11 379 nse nseUp).filter (fun w => !goodWord w), w ∈ gN := by
  intro w hw
  have h : ((vx_at0 RX11 379 nse nseUp).filter (fun w => !goodWord w)).all (fun w => decide (w ∈ lw_tbl) && isNest w) = true := by decide +kernel
  have h1 := List.all_eq_true.mp h w hw
  simp only [Bool.and_eq_true, decide_eq_true_eq] at h1
  exact List.mem_filter.mpr h1
theorem gN_ot : ∀ w, isNest w = true → w.onTables = true := by
  intro w h
  cases w <;> first | rfl | (simp [isNest] at h)
theorem gx_cast : Cond.castable nse nse ∈ gN := by
  have h : decide (Cond.castable nse nse ∈ lw_tbl) = true := by decide +kernel
  exact List.mem_filter.mpr ⟨of_decide_eq_true h, rfl⟩
theorem gx_ot : ∀ w ∈ Cond.classLink RX11 377 nse :: Cond.initialized nse :: vx_at0 RX11 379 nse nseUp, vx_ot w = true := by decide +kernel
theorem gx_k : Cond.classLink RX11 377 nse ∈ gt := by
  have h : decide (Cond.classLink RX11 377 nse ∈ lw_tbl) = true := by decide +kernel
  exact List.mem_filter.mpr ⟨of_decide_eq_true h, rfl⟩
theorem gx_i : Cond.initialized nse ∈ gt := by
  have h : decide (Cond.initialized nse ∈ lw_tbl) = true := by decide +kernel
  exact List.mem_filter.mpr ⟨of_decide_eq_true h, rfl⟩
theorem dled_49 : decode (mC 167) 49 = .ok (.new 377, 3) ∧ decode (mC 167) 52 = .ok (.dup, 1) ∧ decode (mC 167) 53 = .ok (.invokespecial 379, 3) ∧ decode (mC 167) 56 = .ok (.athrow, 1) := by decide +kernel
section Led
variable {l : Launch} {D : va_G} {cA : Nat → ClassId}
theorem led_met {n d : Nat} {σ σ2 : aS} {x i : Int} {rv : aV} (hl : l.stackTraces = false) (hSn : Snd aB 167 l n) (h : exec aB mL mK 167 n d 167 0 [] (aent (mL 167) [(2, x), (0, i)]) [] σ = some (some rv, σ2)) (hd : 6 ≤ d) (haa : ∀ v ∈ [((2 : Nat), x), (0, i)], okV σ.2.1 v) (hM : okM σ) (hbig : σ.2.1 ≤ 1000000) (ad : Nat → Nat) (sz : Nat) :
    vx_Met l (mY 167) (wJ (mY 167) (mC 167) (mL 167) (mR 167)) { frames := d, cells := σ2.2.2.1 - σ.2.2.1, slots := σ2.2.2.2 - σ.2.2.2, locals := 36 * d } (va_Pc ([((2 : Nat), x), (0, i)].map (cV ad)) (PreA D cA ad σ sz)) (QcA D cA ad σ (some rv) σ2 (va_A (cW cA ad σ) sz)) (XcA D cA ad σ rv σ2 (va_A (cW cA ad σ) sz)) (σ2.2.2.1 - σ.2.2.1) (σ2.2.2.2 - σ.2.2.2) (va_A (cW cA ad σ) sz) := by
  have hok := okMt_all 167 (by decide)
  refine vx_ofW (cc := mC 167) (maxL := mL 167) (ret := mR 167) hok.2.2.1 rfl ?_
  intro p e s m args below meth c s₁ Bd hml hnox hv
  obtain ⟨rfl, hsz, hP, hK, hD, hG⟩ := hv
  subst hsz
  have hts := fun w (h : w ∈ gt) => atoms_spec (ws := wJ (mY 167) (mC 167) (mL 167) (mR 167)) Bd.pre w (List.mem_cons_of_mem _ h)
  have hown : s.vm.findClass (mY 167).cls = some m.cls := findClass_of_methodNamed Bd.named
  have hnm : meth.name = (mY 167).name := (name_of_methodNamed Bd.named Bd.method).1
  have hmono := exec_mono aB mL mK 167 n _ _ _ _ _ _ _ _ _ h
  have hC : Cx p s m ([((2 : Nat), x), (0, i)].map (cV ad)).toArray c (mC 167) (mL 167) (mY 167).cls D cA (va_A (cW cA ad σ) s.heap.size) ad σ.1 := ⟨Bd.exec, Bd.bytes, hml, hown, hts, hK, fun q hq => Or.inr hq, hG⟩
  rw [lg_entry_eq]
  have hfl : (afl [((2 : Nat), x), (0, i)]).length ≤ mL 167 := by
    show 2 ≤ mL 167
    decide +kernel
  have G := hSn d 167 0 [] (aent (mL 167) [(2, x), (0, i)]) [] σ (some rv) σ2 h trivial p e (headSpec (wJ (mY 167) (mC 167) (mL 167) (mR 167)) { frames := d, cells := σ2.2.2.1 - σ.2.2.1, slots := σ2.2.2.2 - σ.2.2.2, locals := 36 * d }).room s m _ below meth c (vx_MQ below (QcA D cA ad σ (some rv) σ2 (va_A (cW cA ad σ) s.heap.size)) (XcA D cA ad σ rv σ2 (va_A (cW cA ad σ) s.heap.size)) ([((2 : Nat), x), (0, i)].map (cV ad)).toArray s (σ2.2.2.1 - σ.2.2.1) (σ2.2.2.2 - σ.2.2.2) (va_A (cW cA ad σ) s.heap.size)) D cA (va_A (cW cA ad σ) s.heap.size) ad σ.1 σ.2.1 σ.2.2.1 σ.2.2.2 hC hnm.symm (Nat.le_refl _) (Nat.le_refl _)
    (by show σ2.2.2.1 ≤ σ.2.2.1 + (σ2.2.2.1 - σ.2.2.1); omega) (by show σ2.2.2.2 ≤ σ.2.2.2 + (σ2.2.2.2 - σ.2.2.2); omega)
    (fun pc1 o1 L1 S1 σf hfin hS0 hth hdg hok1 => by
      rcases hfin with ⟨-, h1, rfl⟩ | ⟨hk4, h1, h2⟩
      · intro ad1 H1 locs1 ls1 cells1 slots1 hI1
        exact vx_ret (fin_sound hC Bd.returns Bd.notSynchronized hdg hok1 h1 ad1 H1 locs1 ls1 cells1 slots1 hI1)
      · intro ad1 H1 locs1 ls1 cells1 slots1 hI1
        obtain ⟨-, rfl⟩ := hth hk4
        obtain ⟨⟨qP, qD, qS, qM⟩, qL, qSt, qad, qtop, qro, qce, qse, qbig⟩ := id hI1
        have hc2 : σ2.2.2.1 = σf.2.2.1 + 1 := by rw [h2]
        have hs2 : σ2.2.2.2 = σf.2.2.2 + 6 := by rw [h2]
        obtain ⟨z0, z3, z4, z7⟩ := dled_49
        have hS0 : S1 = [] := by
          rcases hS0 with h | h
          · exact List.length_eq_zero_iff.mp h.2
          · rw [hk4] at h; cases h
        subst hS0
        obtain ⟨ins, ln, ra, rb, rc⟩ := o1
        refine vx_throw0 (own := RX11) (cls := nse) (names := nseUp) (ik := 377) (ic := 379) (A := va_A (cW cA ad σ) s.heap.size) Bd.exec Bd.bytes hl hown (by decide +kernel) (by decide +kernel) (hts _ gx_k) (hts _ gx_i) (vx_hat (fun w hw => hts w (gx_hat w hw)) gx_rest (fun w hw => va_Nw.use (gN_ot w (List.mem_filter.mp hw).2) (hG.1 _ hw))) gx_ot hG.2.1.2.1 hG.2.1.2.2 qS (qL.1.trans hml.symm) z0 z3 z4 z7 (fun z hz => absurd (hnox z hz) id) (by show 2 + 3 < d; omega) (by show 0 + (13 * (2 + 1) + 42) ≤ 36 * d; omega) (by show cells1 + 1 ≤ σ2.2.2.1 - σ.2.2.1; omega) (by show slots1 + 6 ≤ σ2.2.2.2 - σ.2.2.2; omega) Bd.notSynchronized (fun t hvm hz hk => ?_) qS.2.2 (by omega) (by omega)
        have e2 : cW cA ad1 σ2 = cW cA ad1 σf := by rw [h2]; rfl
        have hkept : ∀ q : Nat, q < s.heap.size → ¬ va_A (cW cA ad σ) s.heap.size q → t.heap[q]? = s.heap[q]? := fun q h1 h2 => by rw [hk q (Nat.lt_of_lt_of_le h1 qS.1)]; exact qS.2.1 q h1 h2
        refine ⟨rfl, by rw [Option.some.inj h1], ⟨ad1, ?_, va_K.moved hvm hK, by rw [e2]; exact qD, qad, ?_, (fun v hv => by cases hv), ?_, ?_, ?_⟩, Nat.le_trans qS.1 hz, hkept⟩
        · rw [e2]
          exact va_P.kept qP (fun k q hq => hk q.1 (va_at.lt (qP k q hq)))
        · rw [h2]; exact qM
        · rw [h2]; exact qtop
        · rw [h2]; exact qro
        · rw [h2]; exact qbig)
  exact G ad s.heap [] _ 0 0 ⟨⟨hP, hD.self, va_S.rf, hM⟩, IL_entry haa hfl, (fun v hv => absurd hv List.not_mem_nil), fun _ _ => rfl, Nat.le_refl _, fun _ _ _ => rfl, Nat.zero_add _, Nat.zero_add _, hbig⟩
theorem ast_top {o : aO} {d : Nat} {L S L1 S1 : List aV} {σ σ1 : aS} (h : ast o d L S σ = some (L1, S1, σ1)) : σ.2.1 ≤ σ1.2.1 := by
  obtain ⟨ins, ln, ra, rb, rc⟩ := o
  delta ast at h
  cases ins <;> dsimp only at h <;> (repeat' split at h) <;> first | (cases h; done) | (cases h; exact Nat.le_refl _) | (cases h; exact Nat.le_succ _)
theorem exec_top (B : Nat → Nat → Option (List aO)) (mL mK : Nat → Nat) (lj : Nat) : ∀ (n d j pc : Nat) (ops : List aO) (L S : List aV) (σ : aS) (r : Option aV) (σ1 : aS), exec B mL mK lj n d j pc ops L S σ = some (r, σ1) → σ.2.1 ≤ σ1.2.1
  | 0, d, j, pc, ops, L, S, σ, r, σ1, h => by simp [exec] at h
  | n + 1, d, j, pc, [], L, S, σ, r, σ1, h => by
    simp only [exec] at h
    split at h
    · exact exec_top B mL mK lj n _ _ _ _ _ _ _ _ _ h
    · cases h
  | n + 1, d, j, pc, o :: ops, L, S, σ, r, σ1, h => by
    have ih := exec_top B mL mK lj n
    simp only [exec] at h
    split at h
    · split at h
      · rename_i h1
        exact Nat.le_trans (ast_top h1) (ih _ _ _ _ _ _ _ _ _ h)
      · cases h
    · split at h
      · exact ih _ _ _ _ _ _ _ _ _ h
      · exact ih _ _ _ _ _ _ _ _ _ h
      · cases h
    · split at h
      · cases h
      · split at h
        · split at h
          · cases h
          · rename_i h1
            exact Nat.le_trans (ih _ _ _ _ _ _ _ _ _ h1) (ih _ _ _ _ _ _ _ _ _ h)
          · cases h
        · cases h
    · split at h
      · cases h; exact Nat.le_refl _
      · cases h
    · split at h
      · cases h; exact Nat.le_refl _
      · cases h
    · split at h
      · split at h
        · split at h
          · rename_i h1
            exact Nat.le_trans (ih _ _ _ _ _ _ _ _ _ h1) (ih _ _ _ _ _ _ _ _ _ h)
          · rename_i h1
            have h2 := ih _ _ _ _ _ _ _ _ _ h
            exact Nat.le_trans (ih _ _ _ _ _ _ _ _ _ h1) h2
          · cases h
        · cases h
      · cases h
    · cases h
theorem met_ofWH {y : MethodName} {ws ws' : List Cond} {rm : Room} {Pc : Array Value → State → Prop} {Qc : Array Value → State → Outcome → State → Prop} {mc ms : Nat} {free : Addr → Prop} {cc : ByteArray} {maxL : Nat} {ret : Option FieldType} {hh : List (Nat × Nat × Nat × Nat)}
    (hy : plainName y.cls = true) (hw : ws = Cond.codeWith y cc maxL ret hh :: ws')
    (body : ∀ p e s m args below meth c s₁, BodyLoose p l y (headSpec ws rm) cc maxL ret e s m args below meth c s₁ → c.maxLocals = maxL → Pc args s →
      W p l e (headSpec ws rm).room s m args below meth c s.heap [] 0 0 (MQ below Qc args s mc ms free) (entryFrame m args maxL)) : Met l y ws rm Pc Qc mc ms free := by
  refine MetFree.of_bodyS (code := cc) (maxLocals := maxL) (ret := ret) hy ?_ ?_
  · intro args s m h hn
    obtain ⟨m9, meth, c, hn9, h1, h2, h3, h4, -, h5, h6, -⟩ := Cond.codeWith_spec (atoms_spec (ws := ws) h _ (by rw [hw]; exact List.mem_cons_self))
    cases hn.symm.trans hn9
    exact ⟨meth, c, h1, h2, h3, h4, h5, h6⟩
  · intro p e s m args below meth c s₁ B hml hP _
    have hh0 : s₁.heap = s.heap := by rw [B.state]; rfl
    obtain ⟨t, a1, o, b1, b2, b3⟩ := body p e s m args below meth c s₁ B hml hP s₁ hh0 (Stand.of_body B)
    exact ⟨t, o, a1, b1, b2, ⟨b3.1, b3.2⟩⟩
theorem gl_cw : Cond.codeWith yL_led cL_led 4 (some .int) [(0, 9, 12, 13)] ∈ gt := by
  have h : decide (Cond.codeWith yL_led cL_led 4 (some .int) [(0, 9, 12, 13)] ∈ lw_tbl) = true := by decide +kernel
  exact List.mem_filter.mpr ⟨of_decide_eq_true h, rfl⟩
theorem gl_st : Cond.static yL_led ∈ gt := by
  have h : decide (Cond.static yL_led ∈ lw_tbl) = true := by decide +kernel
  exact List.mem_filter.mpr ⟨of_decide_eq_true h, rfl⟩
theorem gl_ck : Cond.classLink RL 13 nse ∈ gt := by
  have h : decide (Cond.classLink RL 13 nse ∈ lw_tbl) = true := by decide +kernel
  exact List.mem_filter.mpr ⟨of_decide_eq_true h, rfl⟩
theorem gl_lk : Cond.methodLink RL 7 (mY 167) ∈ gt := by
  have h : decide (Cond.methodLink RL 7 (mY 167) ∈ lw_tbl) = true := by decide +kernel
  exact List.mem_filter.mpr ⟨of_decide_eq_true h, rfl⟩
theorem gl_in : Cond.initialized RL ∈ gt := by
  have h : decide (Cond.initialized RL ∈ lw_tbl) = true := by decide +kernel
  exact List.mem_filter.mpr ⟨of_decide_eq_true h, rfl⟩
theorem gl_im : Cond.instanceMethod (mY 167) ∈ gt := by
  have h : decide (Cond.instanceMethod (mY 167) ∈ lw_tbl) = true := by decide +kernel
  exact List.mem_filter.mpr ⟨of_decide_eq_true h, rfl⟩
theorem gl_se : Cond.selects RX11 (mY 167) (mY 167) ∈ gt := by
  have h : decide (Cond.selects RX11 (mY 167) (mY 167) ∈ lw_tbl) = true := by decide +kernel
  exact List.mem_filter.mpr ⟨of_decide_eq_true h, rfl⟩
theorem dL_led_0 : decode cL_led 0 = .ok (.aload_n 2, 1) := by decide +kernel
theorem dL_led_1 : decode cL_led 1 = .ok (.iconst 0, 1) := by decide +kernel
theorem dL_led_2 : decode cL_led 2 = .ok (.aload_n 0, 1) := by decide +kernel
theorem dL_led_3 : decode cL_led 3 = .ok (.iload_n 1, 1) := by decide +kernel
theorem dL_led_4 : decode cL_led 4 = .ok (.invokevirtual 7, 3) := by decide +kernel
theorem dL_led_7 : decode cL_led 7 = .ok (.i2l, 1) := by decide +kernel
theorem dL_led_8 : decode cL_led 8 = .ok (.lastore, 1) := by decide +kernel
theorem dL_led_9 : decode cL_led 9 = .ok (.goto 6, 3) := by decide +kernel
theorem dL_led_12 : decode cL_led 12 = .ok (.astore_n 3, 1) := by decide +kernel
theorem dL_led_13 : decode cL_led 13 = .ok (.iconst 1, 1) := by decide +kernel
theorem dL_led_14 : decode cL_led 14 = .ok (.ireturn, 1) := by decide +kernel
theorem dL_led_15 : decode cL_led 15 = .ok (.iconst 0, 1) := by decide +kernel
theorem dL_led_16 : decode cL_led 16 = .ok (.ireturn, 1) := by decide +kernel
/-- an end with an int -/
theorem fin_int {p : Program} {e : Env} {R : Room} {s : State} {m : MethodId} {args : Array Value} {below : List Frame} {meth : Method} {c : Code} {cc : ByteArray} {nL pc : Nat} {own : String} {ad0 : Nat → Nat} {σ0 σ1 : aS} {v : Int} {L : List aV} {A : Nat → Prop} (hC : Cx p s m args c cc nL own D cA A ad0 σ0.1) (hr : meth.sig.returnType = some .int) (hlocks : meth.locks = false) (hdg : decode cc pc = .ok (.ireturn, 1)) : Gw p l e R s m args below meth c (MQ below (QcA D cA ad0 σ0 (some (0, v)) σ1 A) args s (σ1.2.2.1 - σ0.2.2.1) (σ1.2.2.2 - σ0.2.2.2) A) D cA A ad0 σ0.1 σ0.2.1 σ0.2.2.1 σ0.2.2.2 nL pc L [(0, v)] σ1 := by
  intro ad H locs ls cells slots hI
  obtain ⟨hx, hb, hml, hown, hts, hK, hA, hG⟩ := id hC
  obtain ⟨⟨hP, hD, hS, hM⟩, hL, hSt, had, htop, hro, hce, hse, hbig⟩ := id hI
  have ec : cells = σ1.2.2.1 - σ0.2.2.1 := by omega
  have es : slots = σ1.2.2.2 - σ0.2.2.2 := by omega
  rw [← ec, ← es]
  exact W.iret hx hb hr (fun t ht hW => ⟨⟨ad, rfl, by rw [ht]; exact hP, va_K.moved hW.alike hK, hD, had, hM, fun w hw => by cases hw; exact hSt _ List.mem_cons_self, htop, hro, hbig⟩, hS.F ht⟩) hS.2.2 hdg
end Led

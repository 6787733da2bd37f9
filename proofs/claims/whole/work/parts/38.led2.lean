/-! ===== the law's own method that calls led and catches what it throws ===== -/
section Led2
variable {l : Launch} {D : va_G} {cA : Nat → ClassId}
theorem lled_met {n d : Nat} {σ σ2 : aS} {x i q : Int} {rv : aV} (hl : l.stackTraces = false) (hSn : Snd aB 167 l n) (h : exec aB mL mK 167 n d 167 0 [] (aent (mL 167) [(2, x), (0, i)]) [] σ = some (some rv, σ2)) (hd : 6 ≤ d) (hrv : rv.1 = 7 ∨ rv.1 = 0) (hq : aWr σ q 102) (hq2 : 0 < (ash q.toNat).2) (hx11 : aWr σ x 11) (haa : ∀ v ∈ [((2 : Nat), x), (0, i), (2, q)], okV σ.2.1 v) (hM : okM σ) (hbig : σ.2.1 ≤ 1000000) (ad : Nat → Nat) (sz : Nat) :
    Met l yL_led (.codeWith yL_led cL_led 4 (some .int) [(0, 9, 12, 13)] :: gt) { frames := d + 1, cells := σ2.2.2.1 - σ.2.2.1, slots := σ2.2.2.2 - σ.2.2.2, locals := 36 * (d + 1) } (va_Pc ([((2 : Nat), x), (0, i), (2, q)].map (cV ad)) (PreA D cA ad σ sz)) (QcA D cA ad σ (some (0, if rv.1 = 7 then 1 else 0)) (if rv.1 = 7 then σ2 else awr σ2 q.toNat 0 rv.2) (va_A (cW cA ad σ) sz)) (σ2.2.2.1 - σ.2.2.1) (σ2.2.2.2 - σ.2.2.2) (va_A (cW cA ad σ) sz) := by
  have hok := okMt_all 167 (by decide)
  refine met_ofWH (cc := cL_led) (maxL := 4) (ret := some .int) (hh := [(0, 9, 12, 13)]) (by decide +kernel) rfl ?_
  intro p e s m args below meth c s₁ Bd hml hv
  obtain ⟨rfl, hsz, hP, hK, hD, hG⟩ := hv
  subst hsz
  have hts := fun w (h : w ∈ gt) => atoms_spec (ws := Cond.codeWith yL_led cL_led 4 (some .int) [(0, 9, 12, 13)] :: gt) Bd.pre w (List.mem_cons_of_mem _ h)
  have hown : s.vm.findClass RL = some m.cls := findClass_of_methodNamed Bd.named
  have htab := vx_table (x := yL_led) Bd (hts _ gl_cw)
  have hmono := exec_mono aB mL mK 167 n _ _ _ _ _ _ _ _ _ h
  have htopm := exec_top aB mL mK 167 n _ _ _ _ _ _ _ _ _ h
  have hrb := Bd.returns
  have hC : Cx p s m ([((2 : Nat), x), (0, i), (2, q)].map (cV ad)).toArray c cL_led 4 RL D cA (va_A (cW cA ad σ) s.heap.size) ad σ.1 := ⟨Bd.exec, Bd.bytes, hml, hown, hts, hK, fun q hq => Or.inr hq, hG⟩
  rw [lg_entry_eq]
  have hfl : (afl [((2 : Nat), x), (0, i), (2, q)]).length ≤ 4 := by show 3 ≤ 4; decide
  have eL : aent 4 [((2 : Nat), x), (0, i), (2, q)] = [(2, x), (0, i), (2, q), (9, 0)] := rfl
  have eR : (headSpec (Cond.codeWith yL_led cL_led 4 (some .int) [(0, 9, 12, 13)] :: gt) { frames := d + 1, cells := σ2.2.2.1 - σ.2.2.1, slots := σ2.2.2.2 - σ.2.2.2, locals := 36 * (d + 1) }).room = { frames := d + 1, cells := σ2.2.2.1 - σ.2.2.1, slots := σ2.2.2.2 - σ.2.2.2, locals := 36 * (d + 1) } := rfl
  rw [eR]
  have hoki : aIn i := okV_int (haa _ (by simp))
  suffices G : Gw p l e { frames := d + 1, cells := σ2.2.2.1 - σ.2.2.1, slots := σ2.2.2.2 - σ.2.2.2, locals := 36 * (d + 1) } s m ([((2 : Nat), x), (0, i), (2, q)].map (cV ad)).toArray below meth c (MQ below (QcA D cA ad σ (some (0, if rv.1 = 7 then 1 else 0)) (if rv.1 = 7 then σ2 else awr σ2 q.toNat 0 rv.2) (va_A (cW cA ad σ) s.heap.size)) ([((2 : Nat), x), (0, i), (2, q)].map (cV ad)).toArray s (σ2.2.2.1 - σ.2.2.1) (σ2.2.2.2 - σ.2.2.2) (va_A (cW cA ad σ) s.heap.size)) D cA (va_A (cW cA ad σ) s.heap.size) ad σ.1 σ.2.1 σ.2.2.1 σ.2.2.2 4 0 [(2, x), (0, i), (2, q), (9, 0)] [] σ by
    exact G ad s.heap [] _ 0 0 ⟨⟨hP, hD.self, va_S.rf, hM⟩, eL ▸ IL_entry haa hfl, (fun v hv => absurd hv List.not_mem_nil), fun _ _ => rfl, Nat.le_refl _, fun _ _ _ => rfl, Nat.zero_add _, Nat.zero_add _, hbig⟩
  refine k_aload_n hC 2 dL_led_0 (v := q) rfl hq.1 ?_
  refine k_iconst hC 0 ⟨by decide, by decide⟩ dL_led_1 ?_
  refine k_aload_n hC 0 dL_led_2 (v := x) rfl hx11.1 ?_
  refine k_iload_n hC 1 dL_led_3 (v := i) rfl ?_
  intro ad1 H locs ls cells slots hI
  obtain ⟨⟨qP, qD, qS, qM⟩, qL, qSt, qad, qtop, qro, qce, qse, qbig⟩ := id hI
  have hA : ∀ q1, s.heap.size ≤ q1 → va_A (cW cA ad σ) s.heap.size q1 := fun q1 h => Or.inr h
  have hmet := led_met (D := D) (cA := cA) hl hSn h hd (fun v hv => haa v (by simp at hv ⊢; rcases hv with h | h <;> simp [h])) hM hbig ad1 H.size
  have e3 : [((2 : Nat), x), (0, i)].map (cV ad1) = [Value.ref (ad1 x.toNat), .int (Int32.ofInt i)] := by
    show [cV ad1 (2, x), cV ad1 (0, i)] = _
    rw [cV_2 ad1 hx11.1]; rfl
  rw [e3] at hmet
  have hcl : (mY 167).cls = RX11 := by decide +kernel
  have hrv2 := va_recv hK qP (q := (RX11, TX11, 15)) (ci := 11) rfl (show (cW cA ad1 σ)[x.toNat]? = some (ad1 x.toNat, .inr (11, cF ad1 σ.1 x.toNat 11)) by rw [cW_at hx11.2.2, cE_obj hx11.2.1 (by decide)])
  have hS01 : ∀ v ∈ ([((0 : Nat), (0 : Int)), (2, q)] : List aV), okV σ.2.1 v := fun w hw => qSt w (by simp at hw ⊢; rcases hw with h | h <;> simp [h])
  have hstk : ([((0 : Nat), i), (2, x), (0, 0), (2, q)] : List aV).map (cV ad1) = ([Value.int (Int32.ofInt i)] : List Value).reverse ++ Value.ref (ad1 x.toNat) :: ([((0 : Nat), (0 : Int)), (2, q)] : List aV).map (cV ad1) := by
    show [cV ad1 (0, i), cV ad1 (2, x), cV ad1 (0, 0), cV ad1 (2, q)] = _
    rw [cV_2 ad1 hx11.1]; rfl
  have hpre := pre_of hC hI [Value.ref (ad1 x.toNat), .int (Int32.ofInt i)]
  have hrun : vx_Run p l e { frames := d + 1, cells := σ2.2.2.1 - σ.2.2.1, slots := σ2.2.2.2 - σ.2.2.2, locals := 36 * (d + 1) } s m _ below meth c H locs cells slots (σ2.2.2.1 - σ.2.2.1) (σ2.2.2.2 - σ.2.2.2) (F0 m 4 ls (([((0 : Nat), i), (2, x), (0, 0), (2, q)] : List aV).map (cV ad1))) (([((0 : Nat), (0 : Int)), (2, q)] : List aV).map (cV ad1)) _ _ _ :=
    vx_runV (C := RX11) (b := ad1 x.toNat) (As := [.int (Int32.ofInt i)]) (rest := ([((0 : Nat), (0 : Int)), (2, q)] : List aV).map (cV ad1)) ⟨Bd.exec, Bd.bytes, hml, hown, hts⟩ hmet ⟨callB_of 1 hts (gt_gi hok) rfl rfl rfl (hts _ hok.2.1) (hts _ gl_lk) ⟨hok.2.2.2.1.1, hok.2.2.2.1.2, mP_ok 167 (by decide)⟩ ⟨Nat.le_refl _, by have := hok.2.2.2.2; show 8 + (mL 167 + 11) + 36 * d ≤ 36 * (d + 1); omega⟩, hts _ gl_im, hts _ gl_se⟩ ⟨PreA.blind, hrv2, hpre⟩ rfl rfl qL.1 hstk (lv_room (by rw [awd_sum hS01]; show 2 ≤ 8; decide)) dL_led_4 ⟨by show cells + _ ≤ σ2.2.2.1 - σ.2.2.1; omega, by show slots + _ ≤ σ2.2.2.2 - σ.2.2.2; omega⟩
  have ec : cells = 0 := by omega
  have es : slots = 0 := by omega
  subst ec; subst es
  by_cases h7 : rv.1 = 7
  · -- thrown, and caught here
    rw [if_pos h7, if_pos h7]
    intro T hT X
    rcases hrun T hT X with ⟨v, st₀, t, T', Lx, h0, X', hL, e1, e2, ⟨⟨ad2, hv, hpost⟩, hF⟩, st⟩ | ⟨q9, st₀, t, T', Lx, E, ce, h0, X', hL, e1, e2, ⟨rfl, -, ⟨ad2, hpost⟩, hz, hk⟩, hce, hcv, hcl2, st⟩
    · exfalso
      have h9 := hpost.2.2.2.2.2.1 rv rfl
      rcases okV_tag h9 with e | e | e <;> rw [h7] at e <;> cases e
    · rw [h0] at hz hk
      obtain ⟨hP1, hK1, hD1, hag, hM1, -, htp, hro1, hbig1⟩ := hpost
      have hfr : ∀ q1, va_A (cW cA ad1 σ) H.size q1 → va_A (cW cA ad σ) s.heap.size q1 := by
        rintro q1 (⟨k, e, hq1⟩ | hq1)
        · exact qD.2 k (q1, e) hq1
        · exact Or.inr (Nat.le_trans qS.1 hq1)
      have hS1 : va_S (va_A (cW cA ad σ) s.heap.size) s.heap t.heap (locs ++ Lx) := ⟨Nat.le_trans qS.1 hz, fun q1 h1 h2 => by rw [hk q1 (Nat.lt_of_lt_of_le h1 qS.1) (fun z => h2 (hfr q1 z))]; exact qS.2.1 q1 h1 h2, fun z hz2 => (List.mem_append.mp hz2).elim (qS.2.2 z) (fun h => hfr _ (hL z h))⟩
      have kk : W p l e { frames := d + 1, cells := σ2.2.2.1 - σ.2.2.1, slots := σ2.2.2.2 - σ.2.2.2, locals := 36 * (d + 1) } s m ([((2 : Nat), x), (0, i), (2, q)].map (cV ad)).toArray below meth c t.heap (locs ++ Lx) (0 + (σ2.2.2.1 - σ.2.2.1)) (0 + (σ2.2.2.2 - σ.2.2.2)) (MQ below (QcA D cA ad σ (some (0, 1)) σ2 (va_A (cW cA ad σ) s.heap.size)) ([((2 : Nat), x), (0, i), (2, q)].map (cV ad)).toArray s (σ2.2.2.1 - σ.2.2.1) (σ2.2.2.2 - σ.2.2.2) (va_A (cW cA ad σ) s.heap.size)) (F0 m 12 ls [.ref q9]) := by
        refine lv_astore_n Bd.exec Bd.bytes dL_led_12 rfl qL.has (by decide) rfl (fun ls1 h1 => ?_)
        refine lv_iconst (v := 1) Bd.exec Bd.bytes dL_led_13 (by decide) ?_
        rw [Nat.zero_add, Nat.zero_add]
        exact W.iret Bd.exec Bd.bytes hrb (fun t2 ht hW => ⟨⟨ad2, rfl, by rw [ht]; exact hP1, va_K.moved hW.alike hK, hD1.weaken (fun k q1 _ h => hfr q1.1 h), fun k hk2 => (hag k hk2).trans (qad k hk2), hM1, fun w hw => by cases hw; exact okV_i ⟨by decide, by decide⟩, htp, hro1, hbig1⟩, hS1.F ht⟩) hS1.2.2 dL_led_14
      have hcat := cat_W (pc := 4) (ls := ls) (rest := ([((0 : Nat), (0 : Int)), (2, q)] : List aV).map (cV ad1)) (own := RL) (name := nse) (E := nse) (ce := ce) (q := q9) hown ⟨0, 9, 12, 13⟩ htab (by decide) (by decide) (hts _ gl_ck) (va_Nw.use rfl (hG.1 _ gx_cast)) hce hcv hcl2 kk
      obtain ⟨t2, a1, b1⟩ := hcat T' e1 X'
      exact ⟨t2, st.trans a1, b1⟩
  · -- returned
    have hr0 : rv.1 = 0 := hrv.resolve_left h7
    obtain ⟨tg, v⟩ := rv
    simp only at hr0
    subst hr0
    rw [if_neg h7, if_neg h7]
    refine call_go (a := #[Value.ref (ad1 x.toNat), Value.int (Int32.ofInt i)]) (mc := σ2.2.2.1 - σ.2.2.1) (ms := σ2.2.2.2 - σ.2.2.2) hA hI (S1 := [(0, 0), (2, q)]) hS01 (r := some (0, v)) (σ1 := σ2) (fun T hT X => ?_) (by omega) (by omega) ?_
    · rcases hrun T hT X with hA1 | ⟨q9, st₀, t, T', Lx, E, ce, h0, X', hL, e1, e2, ⟨-, h77, -⟩, -⟩
      · exact hA1
      · exact absurd h77 h7
    · refine k_i2l hC dL_led_7 ?_
      refine k_lastore hC dL_led_8 (n := q) (i := 0) (v := v) ⟨hq.1, hq.2.1, Nat.lt_of_lt_of_le hq.2.2 htopm⟩ (by decide) hq2 ?_
      refine k_goto hC 6 (tgt := 15) dL_led_9 (by decide) ?_
      refine k_iconst hC 0 ⟨by decide, by decide⟩ dL_led_15 ?_
      exact fin_int (σ0 := σ) (σ1 := awr σ2 q.toNat 0 v) hC hrb Bd.notSynchronized dL_led_16
theorem led_ok (hl : l.stackTraces = false) : ∀ n, Snd aB 167 l n → LedOk aB 167 l n := by
  intro n hSn d j pc o L S1 σ q i x rv σ2 hdg hok hk hwd hq hq2 hx11 hmL hd h hrv p e R s m args below meth c Q D cA A ad0 M0 t0 c0 u0 hC hf hlo hcap hsl K
  intro ad H locs ls cells slots hI
  obtain ⟨hx, hb, hml, hown, hts, hK, hA, hG⟩ := id hC
  obtain ⟨⟨qP, qD, qS, qM⟩, qL, qSt, qad, qtop, qro, qce, qse, qbig⟩ := id hI
  have hmono := exec_mono aB mL mK 167 n _ _ _ _ _ _ _ _ _ h
  have haa : ∀ v ∈ [((2 : Nat), x), (0, i), (2, q)], okV σ.2.1 v := fun v hv => qSt v (by simp at hv ⊢; rcases hv with h | h | h <;> simp [h])
  have hS1 : ∀ v ∈ S1, okV σ.2.1 v := fun v hv => qSt v (by simp [hv])
  have hM := lled_met (D := D) (cA := cA) hl hSn h hd hrv hq hq2 hx11 haa qM qbig ad H.size
  have e3 : [((2 : Nat), x), (0, i), (2, q)].map (cV ad) = [Value.ref (ad x.toNat), .int (Int32.ofInt i), .ref (ad q.toNat)] := by
    show [cV ad (2, x), cV ad (0, i), cV ad (2, q)] = _
    rw [cV_2 ad hx11.1, cV_2 ad hq.1]; rfl
  rw [e3] at hM
  have hstk : ((2, q) :: (0, i) :: (2, x) :: S1).map (cV ad) = ([Value.ref (ad x.toNat), .int (Int32.ofInt i), .ref (ad q.toNat)] : List Value).reverse ++ S1.map (cV ad) := by
    show cV ad (2, q) :: cV ad (0, i) :: cV ad (2, x) :: S1.map (cV ad) = _
    rw [cV_2 ad hx11.1, cV_2 ad hq.1]; rfl
  obtain ⟨ins, ln, ra, rb, rc⟩ := o
  cases ins with
  | invokestatic ix =>
    obtain ⟨hln, hw⟩ := hok
    have hln : ln = 3 := hln
    subst hln
    have hra : ra = 1030 := by
      simp only [akd] at hk
      split at hk
      · cases hk
      · split at hk
        · assumption
        · cases hk
    subst hra
    have hw : Cond.methodLink (mY j).cls ix yL_led ∈ gt := hw
    have hG2 : GoodIn gt (Cond.codeWith yL_led cL_led 4 (some .int) [(0, 9, 12, 13)] :: gt) := fun w hw => (List.mem_cons.mp hw).elim (fun e => by subst e; exact ⟨gl_cw, gt_good gl_cw⟩) (fun h => ⟨h, gt_good h⟩)
    refine call_go hA hI hS1 (vx_runSW (g := F0 m pc ls (((2, q) :: (0, i) :: (2, x) :: S1).map (cV ad))) (As := [Value.ref (ad x.toNat), .int (Int32.ofInt i), .ref (ad q.toNat)]) (rest := S1.map (cV ad)) (hh := [(0, 9, 12, 13)]) (bytes := cL_led) (maxL := 4) (ret := some .int) (n := 3) ⟨hx, hb, hml, hown, hts⟩ hM ⟨⟨rfl, rfl, by show d + 1 + 1 ≤ R.frames; omega, by show 8 + (4 + 11) + 36 * (d + 1) ≤ R.locals; omega, pay_in hts hG2, List.mem_cons_self⟩, hts _ gl_cw, hts _ gl_in, ⟨by decide +kernel, by decide +kernel⟩, fun sig hs => ?_, hts _ hw, hts _ gl_st⟩ ⟨PreA.blind, pre_of hC hI _⟩ rfl rfl qL.1 hstk (lv_room (by rw [awd_sum hS1]; exact hwd)) hdg ⟨by omega, by omega⟩) ?_ ?_ K
    · have h2 : (parseMethodDescriptor yL_led.desc).map (fun d => d.parameters.length) = some 3 := by decide +kernel
      rw [hs] at h2
      exact (Option.some.inj h2).symm
    · split <;> (first | (show σ2.2.2.1 = _; omega) | omega)
    · split <;> (first | (show σ2.2.2.2 = _; omega) | omega)
  | _ => simp only [akd] at hk; first | (cases hk; done) | (split at hk <;> cases hk)
end Led2
/-- every run of the pure machine is one of the machine -/
theorem snd_ok {l : Launch} (hl : l.stackTraces = false) : ∀ n, Snd aB 167 l n := snd_all hB_all (led_ok hl)

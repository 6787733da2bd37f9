/-! ===== calls at the pure machine; every run is sound ===== -/
section Calls
variable {p : Program} {l : Launch} {e : Env} {R : Room} {s : State} {m : MethodId} {args : Array Value} {below : List Frame} {meth : Method} {c : Code} {Q : State → Prop} {D : va_G} {cA : Nat → ClassId} {A : Nat → Prop} {ad0 : Nat → Nat} {M0 : aM} {t0 c0 u0 : Nat} {pc j : Nat} {L S : List aV} {σ : aS}
theorem gt_gi {f : Nat} (h : okMt f) : GoodIn gt (wJ (mY f) (mC f) (mL f) (mR f)) := fun w hw => (List.mem_cons.mp hw).elim (fun e => by subst e; exact ⟨h.1, gt_good h.1⟩) (fun h => ⟨h, gt_good h⟩)
/-- what a callee asks of the start -/
theorem pre_of {cc : ByteArray} {nL : Nat} {own : String} (hC : Cx p s m args c cc nL own D cA A ad0 M0) {ad : Nat → Nat} {H : Heap} {locs : List Loc} {ls : Array Slot} {cells slots : Nat} (hI : Iv D cA A s ad0 M0 t0 c0 u0 nL ad L S σ H locs ls cells slots) (av : List Value) : ∀ U : State, U.heap = H → s.WarmedH U.vm → va_Pc av (PreA D cA ad σ H.size) av.toArray U := by
  intro U hU hW
  obtain ⟨hx, hb, hml, hown, hts, hK, hA, hG⟩ := id hC
  obtain ⟨⟨hP, hD, hS, hM⟩, hL, hSt, had, htop, hro, hce, hse, hbig⟩ := id hI
  refine ⟨rfl, by rw [hU], by rw [hU]; exact hP, va_K.moved hW.alike hK, hD.weaken (fun _ _ _ _ => trivial), ?_⟩
  refine Gl.to hG hW hU hS (fun q hq hq2 => ?_) (fun k hk => had k (Or.inr hk)) hro
  rcases hq2 with ⟨k, e, h⟩ | h
  · exact hD.2 k (q, e) h
  · omega
theorem call_sound {B : Nat → Nat → Option (List aO)} {lj n d : Nat} (hSn : Snd B lj l n) (hC : Cx p s m args c (mC j) (mL j) (mY j).cls D cA A ad0 M0) (o : aO) (hdg : decode (mC j) pc = .ok (o.1, o.2.1)) (hok : okO j o) (hk : akd o = 2) {r : Option aV} {σ2 : aS}
    (hx1 : exec B mL mK lj n d o.2.2.1 0 [] (aent (mL o.2.2.1) (S.take (anA o)).reverse) [] σ = some (r, σ2)) (h7 : ∀ x, r ≠ some (7, x)) (hwd : awd (S.drop (anA o)) ≤ 8) (hn : anA o ≤ S.length) (hrc : aRc mK o S σ = true) (hfl : (afl (S.take (anA o)).reverse).length ≤ mL o.2.2.1)
    (hf : d + 1 ≤ R.frames) (hlo : 36 * (d + 1) ≤ R.locals) (hcap : σ2.2.2.1 ≤ c0 + R.cells) (hsl : σ2.2.2.2 ≤ u0 + R.slots)
    (K : Gw p l e R s m args below meth c Q D cA A ad0 M0 t0 c0 u0 (mL j) (pc + 3) L (r.toList ++ S.drop (anA o)) σ2) : Gw p l e R s m args below meth c Q D cA A ad0 M0 t0 c0 u0 (mL j) pc L S σ := by
  intro ad H locs ls cells slots hI
  obtain ⟨hx, hb, hml, hown, hts, hK, hA, hG⟩ := id hC
  obtain ⟨⟨hP, hD, hS, hM⟩, hL, hSt, had, htop, hro, hce, hse, hbig⟩ := id hI
  have hmono := exec_mono B mL mK lj n _ _ _ _ _ _ _ _ _ hx1
  have haa : ∀ v ∈ (S.take (anA o)).reverse, okV σ.2.1 v := fun v hv => hSt v (List.mem_of_mem_take (List.mem_reverse.mp hv))
  have hrest : ∀ v ∈ S.drop (anA o), okV σ.2.1 v := fun v hv => hSt v (List.mem_of_mem_drop hv)
  have hroom : ((S.drop (anA o)).map (cV ad) |>.map fun v => v.category).sum ≤ 8 := by rw [awd_sum hrest]; exact hwd
  have hcs : cells + (σ2.2.2.1 - σ.2.2.1) ≤ R.cells ∧ slots + (σ2.2.2.2 - σ.2.2.2) ≤ R.slots := ⟨by omega, by omega⟩
  obtain ⟨ins, ln, f, na, z⟩ := o
  have hM2 : okMt f → _ := fun hmt => met_of (D := D) (cA := cA) hSn hx1 h7 hmt hfl haa hM hbig ad H.size
  cases ins with
  | invokestatic i =>
    obtain ⟨hln, hw⟩ := hok
    have hln : ln = 3 := hln
    subst hln
    have hf1 : f < 1000 := by
      by_cases h : f < 1000
      · exact h
      · simp only [akd, h, if_false] at hk
        split at hk <;> cases hk
    have hw : okLk (mY j).cls i f na z ∧ Cond.static (mY f) ∈ gt := by
      simp only [okO] at hw
      rw [if_neg (by omega), if_neg (by omega), if_neg (by omega), if_neg (by omega)] at hw
      exact hw
    obtain ⟨⟨hmt, hde, hlk⟩, hst⟩ := hw
    have hR : ({ frames := d, cells := σ2.2.2.1 - σ.2.2.1, slots := σ2.2.2.2 - σ.2.2.2, locals := 36 * d } : Room).frames + 1 ≤ R.frames ∧ 8 + (mL f + 11) + ({ frames := d, cells := σ2.2.2.1 - σ.2.2.1, slots := σ2.2.2.2 - σ.2.2.2, locals := 36 * d } : Room).locals ≤ R.locals := ⟨hf, by have := hmt.2.2.2.2; show 8 + (mL f + 11) + 36 * d ≤ R.locals; omega⟩
    have hstk : S.map (cV ad) = (((S.take na).reverse).map (cV ad)).reverse ++ (S.drop na).map (cV ad) := by
      rw [List.map_reverse, List.reverse_reverse, ← List.map_append, List.take_append_drop]
    have hlen : (((S.take na).reverse).map (cV ad)).length = na := by
      have : na ≤ S.length := hn
      simp; omega
    rcases hlk with ⟨rfl, hlk⟩ | ⟨rfl, ho, hlk⟩
    · exact call_go hA hI hrest (va_runS (g := F0 m pc ls (S.map (cV ad))) (As := ((S.take na).reverse).map (cV ad)) (rest := (S.drop na).map (cV ad)) ⟨hx, hb, hml, hown, hts⟩ (hM2 hmt) ⟨callB_of na hts (gt_gi hmt) rfl rfl rfl (hts _ hmt.2.1) (hts _ hlk) ⟨hmt.2.2.2.1.1, hmt.2.2.2.1.2, hde⟩ hR, hts _ hst⟩ ⟨PreA.blind, pre_of hC hI _⟩ rfl hlen hL.1 hstk (lv_room hroom) hdg hcs) (by omega) (by omega) K
    · exact call_go hA hI hrest (va_runSN (g := F0 m pc ls (S.map (cV ad))) (As := ((S.take na).reverse).map (cV ad)) (rest := (S.drop na).map (cV ad)) ⟨hx, hb, hml, hown, hts⟩ (hM2 hmt) ⟨va_cnB na hts (gt_gi hmt) rfl rfl rfl (hG.1 _ hlk) (hts _ hmt.2.1) ⟨hmt.2.2.2.1.1, hmt.2.2.2.1.2, hde⟩ hR, hts _ hst, trivial⟩ ⟨PreA.blind, pre_of hC hI _⟩ rfl hlen hL.1 hstk (lv_room hroom) hdg hcs) (by omega) (by omega) K
  | invokevirtual i =>
    obtain ⟨hln, hw⟩ := hok
    have hln : ln = 3 := hln
    subst hln
    have hf1 : f < 1000 := by
      by_cases h : f < 1000
      · exact h
      · simp only [akd, h, if_false] at hk
        cases hk
    have hw : okLk (mY j).cls i f na z ∧ Cond.instanceMethod (mY f) ∈ gt ∧ Cond.selects (mY f).cls (mY f) (mY f) ∈ gt ∧ mK f < 14 ∧ ∀ (C : String) (T : u_T) (N : Nat), vwCl[mK f]? = some (C, T, N) → C = (mY f).cls := by
      simp only [okO] at hw
      rw [if_neg (by omega), if_neg (by omega)] at hw
      exact hw
    obtain ⟨⟨hmt, hde, hlk⟩, hin, hse2, hmk, hcn⟩ := hw
    have hR : ({ frames := d, cells := σ2.2.2.1 - σ.2.2.1, slots := σ2.2.2.2 - σ.2.2.2, locals := 36 * d } : Room).frames + 1 ≤ R.frames ∧ 8 + (mL f + 11) + ({ frames := d, cells := σ2.2.2.1 - σ.2.2.1, slots := σ2.2.2.2 - σ.2.2.2, locals := 36 * d } : Room).locals ≤ R.locals := ⟨hf, by have := hmt.2.2.2.2; show 8 + (mL f + 11) + 36 * d ≤ R.locals; omega⟩
    simp only [aRc] at hrc
    split at hrc
    · rename_i x S9 hdr
      have hwr := of_decide_eq_true hrc
      obtain ⟨x0, x1, x2⟩ := hwr
      have hna : na < S.length := by
        have := congrArg List.length hdr
        simp at this; omega
      have e1 : (S.take (na + 1)).reverse = (2, x) :: (S.take na).reverse := by
        have h8 : S[na]? = some (2, x) := by
          have h9 : (S.drop na)[0]? = some (2, x) := by rw [hdr]; rfl
          rw [List.getElem?_drop] at h9
          exact h9
        rw [List.take_succ, h8]; simp
      have e2 : S.drop (na + 1) = S9 := by
        rw [← List.drop_drop, hdr]; rfl
      have hM3 := hM2 hmt
      have e3 : (List.take (anA (Instr.invokevirtual i, 3, f, na, z)) S).reverse.map (cV ad) = Value.ref (ad x.toNat) :: ((S.take na).reverse).map (cV ad) := by
        show ((S.take (na + 1)).reverse).map (cV ad) = _
        rw [e1, List.map_cons, cV_2 ad x0]
      rw [e3] at hM3
      have hstk : S.map (cV ad) = (((S.take na).reverse).map (cV ad)).reverse ++ Value.ref (ad x.toNat) :: S9.map (cV ad) := by
        rw [List.map_reverse, List.reverse_reverse, ← cV_2 ad x0, ← List.map_cons, ← List.map_append, ← hdr, List.take_append_drop]
      have hlen : (((S.take na).reverse).map (cV ad)).length = na := by simp; omega
      have K2 : Gw p l e R s m args below meth c Q D cA A ad0 M0 t0 c0 u0 (mL j) (pc + 3) L (r.toList ++ S9) σ2 := by rw [← e2]; exact K
      have hrest2 : ∀ v ∈ S9, okV σ.2.1 v := fun v hv => hrest v (by show v ∈ S.drop (na + 1); rw [e2]; exact hv)
      have hroom2 : ((S9.map (cV ad)).map fun v => v.category).sum ≤ 8 := by rw [← e2]; exact hroom
      obtain ⟨C, T, N, ty0, c1, c2, c3, c4, c5, c6⟩ := okCl_all (mK f) hmk
      have hrv := va_recv hK hP c1 (show (cW cA ad σ)[x.toNat]? = some (ad x.toNat, .inr (mK f, cF ad σ.1 x.toNat (mK f))) by rw [cW_at x2, cE_obj x1 (by omega)])
      rw [show (C, T, N).1 = (mY f).cls from hcn C T N c1] at hrv
      rcases hlk with ⟨rfl, hlk⟩ | ⟨rfl, ho, hlk⟩
      · exact call_go hA hI hrest2 (va_runV (g := F0 m pc ls (S.map (cV ad))) (C := (mY f).cls) (b := ad x.toNat) (As := ((S.take na).reverse).map (cV ad)) (rest := S9.map (cV ad)) ⟨hx, hb, hml, hown, hts⟩ hM3 ⟨callB_of na hts (gt_gi hmt) rfl rfl rfl (hts _ hmt.2.1) (hts _ hlk) ⟨hmt.2.2.2.1.1, hmt.2.2.2.1.2, hde⟩ hR, hts _ hin, hts _ hse2⟩ ⟨PreA.blind, hrv, pre_of hC hI _⟩ rfl hlen hL.1 hstk (lv_room hroom2) hdg hcs) (by omega) (by omega) K2
      · exact call_go hA hI hrest2 (va_runVN (g := F0 m pc ls (S.map (cV ad))) (C := (mY f).cls) (b := ad x.toNat) (As := ((S.take na).reverse).map (cV ad)) (rest := S9.map (cV ad)) ⟨hx, hb, hml, hown, hts⟩ hM3 ⟨va_cnB na hts (gt_gi hmt) rfl rfl rfl (hG.1 _ hlk) (hts _ hmt.2.1) ⟨hmt.2.2.2.1.1, hmt.2.2.2.1.2, hde⟩ hR, hts _ hin, hts _ hse2⟩ ⟨PreA.blind, hrv, pre_of hC hI _⟩ rfl hlen hL.1 hstk (lv_room hroom2) hdg hcs) (by omega) (by omega) K2
    · cases hrc
  | invokespecial i =>
    obtain ⟨hln, hw⟩ := hok
    have hln : ln = 3 := hln
    subst hln
    have hf1 : f < 1000 := by
      by_cases h : f < 1000
      · exact h
      · simp only [akd, h, if_false] at hk
        cases hk
    have hw : okLk (mY j).cls i f na z ∧ Cond.instanceMethod (mY f) ∈ gt ∧ (mY f).name = "<init>" ∧ mR f = none := by
      simp only [okO] at hw
      rw [if_neg (by omega)] at hw
      exact hw
    obtain ⟨⟨hmt, hde, hlk⟩, hin, hinit, hrn⟩ := hw
    have hR : ({ frames := d, cells := σ2.2.2.1 - σ.2.2.1, slots := σ2.2.2.2 - σ.2.2.2, locals := 36 * d } : Room).frames + 1 ≤ R.frames ∧ 8 + (mL f + 11) + ({ frames := d, cells := σ2.2.2.1 - σ.2.2.1, slots := σ2.2.2.2 - σ.2.2.2, locals := 36 * d } : Room).locals ≤ R.locals := ⟨hf, by have := hmt.2.2.2.2; show 8 + (mL f + 11) + 36 * d ≤ R.locals; omega⟩
    simp only [aRc] at hrc
    split at hrc
    · rename_i x S9 hdr
      have x0 : 0 ≤ x := of_decide_eq_true hrc
      have hna : na < S.length := by
        have := congrArg List.length hdr
        simp at this; omega
      have e1 : (S.take (na + 1)).reverse = (2, x) :: (S.take na).reverse := by
        have h8 : S[na]? = some (2, x) := by
          have h9 : (S.drop na)[0]? = some (2, x) := by rw [hdr]; rfl
          rw [List.getElem?_drop] at h9
          exact h9
        rw [List.take_succ, h8]; simp
      have e2 : S.drop (na + 1) = S9 := by
        rw [← List.drop_drop, hdr]; rfl
      have hM3 := hM2 hmt
      have e3 : (List.take (anA (Instr.invokespecial i, 3, f, na, z)) S).reverse.map (cV ad) = Value.ref (ad x.toNat) :: ((S.take na).reverse).map (cV ad) := by
        show ((S.take (na + 1)).reverse).map (cV ad) = _
        rw [e1, List.map_cons, cV_2 ad x0]
      rw [e3, hrn] at hM3
      have hgi := gt_gi hmt
      rw [hrn] at hgi
      have hstk : S.map (cV ad) = (((S.take na).reverse).map (cV ad)).reverse ++ Value.ref (ad x.toNat) :: S9.map (cV ad) := by
        rw [List.map_reverse, List.reverse_reverse, ← cV_2 ad x0, ← List.map_cons, ← List.map_append, ← hdr, List.take_append_drop]
      have hlen : (((S.take na).reverse).map (cV ad)).length = na := by simp; omega
      have K2 : Gw p l e R s m args below meth c Q D cA A ad0 M0 t0 c0 u0 (mL j) (pc + 3) L (r.toList ++ S9) σ2 := by rw [← e2]; exact K
      have hrest2 : ∀ v ∈ S9, okV σ.2.1 v := fun v hv => hrest v (by show v ∈ S.drop (na + 1); rw [e2]; exact hv)
      have hroom2 : ((S9.map (cV ad)).map fun v => v.category).sum ≤ 8 := by rw [← e2]; exact hroom
      rcases hlk with ⟨rfl, hlk⟩ | ⟨rfl, ho, hlk⟩
      · exact call_go hA hI hrest2 (va_runI (g := F0 m pc ls (S.map (cV ad))) (b := ad x.toNat) (As := ((S.take na).reverse).map (cV ad)) (rest := S9.map (cV ad)) ⟨hx, hb, hml, hown, hts⟩ hM3 ⟨callB_of na hts hgi rfl rfl rfl (hts _ hmt.2.1) (hts _ hlk) ⟨hmt.2.2.2.1.1, hmt.2.2.2.1.2, hde⟩ hR, hinit, hts _ hin⟩ ⟨PreA.blind, pre_of hC hI _⟩ rfl hlen hL.1 hstk (lv_room hroom2) hdg hcs) (by omega) (by omega) K2
      · exact call_go hA hI hrest2 (va_runIN (g := F0 m pc ls (S.map (cV ad))) (b := ad x.toNat) (As := ((S.take na).reverse).map (cV ad)) (rest := S9.map (cV ad)) ⟨hx, hb, hml, hown, hts⟩ hM3 ⟨va_cnB na hts hgi rfl rfl rfl (hG.1 _ hlk) (hts _ hmt.2.1) ⟨hmt.2.2.2.1.1, hmt.2.2.2.1.2, hde⟩ hR, hinit, hts _ hin⟩ ⟨PreA.blind, pre_of hC hI _⟩ rfl hlen hL.1 hstk (lv_room hroom2) hdg hcs) (by omega) (by omega) K2
    · cases hrc
  | _ => simp only [akd] at hk; first | (cases hk; done) | (split at hk <;> cases hk)
end Calls

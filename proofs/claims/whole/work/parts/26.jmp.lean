/-! ===== the texts at the pure machine, jumps ===== -/
theorem atx_ok : ∀ i, i < 48 → (atx.getD i []).length < 1000 ∧ ∀ j, j < (atx.getD i []).length → (atx.getD i []).getD j 0 < 128 := by
  have h : ∀ l ∈ atx, l.length < 1000 ∧ ∀ x ∈ l, x < 128 := by decide +kernel
  intro i _
  rw [List.getD_eq_getElem?_getD]
  cases h1 : atx[i]? with
  | none => exact ⟨by decide, fun j hj => absurd hj (Nat.not_lt_zero j)⟩
  | some l1 =>
    have h2 := h l1 (List.mem_of_getElem? h1)
    refine ⟨h2.1, fun j hj => ?_⟩
    show l1.getD j 0 < 128
    rw [List.getD_eq_getElem?_getD]
    cases h3 : l1[j]? with
    | none => exact (by decide : 0 < 128)
    | some x => exact h2.2 x (List.mem_of_getElem? h3)
section Jmp
variable {p : Program} {l : Launch} {e : Env} {R : Room} {s : State} {m : MethodId} {args : Array Value} {below : List Frame} {meth : Method} {c : Code} {Q : State → Prop} {cc : ByteArray} {nL : Nat} {own : String} {D : va_G} {cA : Nat → ClassId} {A : Nat → Prop} {ad0 : Nat → Nat} {M0 : aM} {t0 c0 u0 : Nat} {pc : Nat} {L S : List aV} {σ : aS}
/-- what the texts' methods ask, at a state of the walk -/
theorem Gl.str {i : Nat} (hG : Gl ad0 A M0 s s.heap) (hi : i < 48) {H : Heap} {locs : List Loc} (hS : va_S A s.heap H locs) {U : State} (hU : U.heap = H) (hv : s.vm.Alike U.vm) : ∃ q, jO (ad0 (2000000 + i)) U ∧ jCS U ∧ jCo (ad0 (2000000 + i)) U ∧ jVa (ad0 (2000000 + i)) q U ∧ jTx q (atx.getD i []) U ∧ jSi U := by
  obtain ⟨-, -, -, -, -, -, -, g1, ⟨v, g2, g3⟩, -, g4⟩ := hG
  obtain ⟨q, o1, o2, o3, o4⟩ := g4 i hi
  have hq : ∀ a : Nat, a < s.heap.size → ¬ A a → U.heap[a]? = s.heap[a]? := fun a h1 h2 => by rw [hU]; exact hS.2.1 a h1 h2
  have no : ∀ q, noA q → A q := fun _ h => absurd h (fun h => h)
  exact ⟨q, ((va_O.moved hv o1).kept hq).narrow no, ((va_Z.moved hv g1).kept hq).narrow no, ((va_OF.moved hv o2).kept hq).narrow no, ((va_OF.moved hv o3).kept hq).narrow no, ((va_T.moved hv o4).kept hq).narrow no, v, ((va_Z.moved hv g2).kept hq).narrow no, g3⟩
theorem k_strlen (hC : Cx p s m args c cc nL own D cA A ad0 M0) (i : Nat) (hw : Cond.methodLink own i yJ0_length_8abf5 ∈ gt) (hdg : decode cc pc = .ok (.invokevirtual i, 3)) (hf : 4 ≤ R.frames) (hlo : 144 ≤ R.locals) (hwd : awd S ≤ 8) (hcap : σ.2.2.1 ≤ c0 + R.cells) (hsl : σ.2.2.2 ≤ u0 + R.slots) {n : Int} (h1 : 2000000 ≤ n) (h2 : n < 2000048)
    (K : Gw p l e R s m args below meth c Q D cA A ad0 M0 t0 c0 u0 nL (pc + 3) L ((0, ((atx.getD ((n - 2000000).toNat) []).length : Int)) :: S) σ) : Gw p l e R s m args below meth c Q D cA A ad0 M0 t0 c0 u0 nL pc L ((2, n) :: S) σ := by
  intro ad H locs ls cells slots hI
  obtain ⟨hx, hb, hml, hown, hts, hK, hA, hG⟩ := id hC
  have hS : ∀ v ∈ S, okV σ.2.1 v := fun w hw => hI.2.2.1 w (List.mem_cons_of_mem _ hw)
  have hce := hI.2.2.2.2.2.2.1
  have hse := hI.2.2.2.2.2.2.2.1
  show W _ _ _ _ _ _ _ _ _ _ _ _ _ _ _ (F0 m pc ls (cV ad (2, n) :: S.map (cV ad)))
  rw [cV_2 ad (by omega)]
  have e1 : ad n.toNat = ad0 (2000000 + ((n - 2000000).toNat)) := by
    have e0 : 2000000 + ((n - 2000000).toNat) = n.toNat := by omega
    rw [e0]
    exact hI.2.2.2.1 n.toNat (Or.inr (by omega))
  rw [e1]
  have hi : (n - 2000000).toNat < 48 := by omega
  generalize (n - 2000000).toNat = k at hi K e1 ⊢
  have hbs := atx_ok k hi
  obtain ⟨q, j1, j2, j3, j4, j5, -⟩ := hG.str hi va_S.rf rfl (Vm.Alike.refl s.vm)
  have j6 : ∀ U : State, U.heap = H → s.WarmedH U.vm → jO (ad0 (2000000 + k)) U ∧ jCS U ∧ jCo (ad0 (2000000 + k)) U ∧ jVa (ad0 (2000000 + k)) q U ∧ jTx q (atx.getD k []) U := by
    intro U hU hW
    have hq : ∀ a : Nat, a < s.heap.size → ¬ A a → U.heap[a]? = s.heap[a]? := fun a h1 h2 => by rw [hU]; exact hI.1.2.2.1.2.1 a h1 h2
    have g4 := hG.2.2.2.2.2.2.2.2.2.2 k hi
    have g1 := hG.2.2.2.2.2.2.2.1
    obtain ⟨q2, o1, o2, o3, o4⟩ := g4
    have no : ∀ q, noA q → A q := fun _ h => absurd h (fun h => h)
    obtain ⟨cf, kk, ii, ff, cl, f1, f2, f3, f4, f5, f6⟩ := id o3
    obtain ⟨cf', kk', ii', ff', cl', f1', f2', f3', f4', f5', f6'⟩ := id j4
    cases f1.symm.trans f1'
    cases f3.symm.trans f3'
    cases f5.symm.trans f5'
    exact ⟨((va_O.moved hW.alike o1).kept hq).narrow no, ((va_Z.moved hW.alike g1).kept hq).narrow no, ((va_OF.moved hW.alike o2).kept hq).narrow no, ((va_OF.moved hW.alike o3).kept hq).narrow no, ((va_T.moved hW.alike o4).kept hq).narrow no⟩
  have hcell : ∃ cellB : Cell, H[ad0 (2000000 + k)]? = some cellB ∧ cellB.vm.isStatics = false ∧ s.vm.findClass RJ0 = some cellB.cls := by
    obtain ⟨q2, o1, -⟩ := hG.2.2.2.2.2.2.2.2.2.2 k hi
    obtain ⟨cell, a1, a2, a3, -⟩ := o1.kept hI.1.2.2.1.2.1
    exact ⟨cell, a1, a2, a3⟩
  refine pu_call (va_runV (C := RJ0) (b := ad0 (2000000 + k)) (As := []) (rest := S.map (cV ad)) ⟨hx, hb, hml, hown, hts⟩ (c_length l (ad0 (2000000 + k)) q (atx.getD k []) hbs.1) ⟨callB_of 0 hts (fun w hw => (List.mem_cons.mp hw).elim (fun e => by subst e; exact ⟨gj_code_len, gt_good gj_code_len⟩) (fun h => ⟨h, gt_good h⟩)) rfl rfl rfl (hts _ gj_ini_str) (hts _ hw) (by decide +kernel) ⟨Nat.le_trans (by decide) hf, Nat.le_trans (by decide) hlo⟩, hts _ gj_i_len, hts _ gj_s_len⟩ ⟨blind (fun _ _ hv hh h => ⟨h.1.to hv hh, h.2.1.to hv hh, h.2.2.1.to hv hh, h.2.2.2.1.to hv hh, h.2.2.2.2.to hv hh⟩), hcell, fun U hU hW => ⟨rfl, j6 U hU hW⟩⟩ rfl rfl hI.2.1.1 rfl (lv_room (by rw [awd_sum hS]; exact hwd)) hdg ⟨by omega, by omega⟩) ?_
  exact K ad H locs ls cells slots (hI.stk (okV_cons (okV_i ⟨by omega, by have := hbs.1; omega⟩) hS))
theorem k_charAt (hC : Cx p s m args c cc nL own D cA A ad0 M0) (i : Nat) (hw : Cond.methodLink own i yJ0_charAt_5068e ∈ gt) (hdg : decode cc pc = .ok (.invokevirtual i, 3)) (hf : 4 ≤ R.frames) (hlo : 144 ≤ R.locals) (hwd : awd S ≤ 8) (hcap : σ.2.2.1 ≤ c0 + R.cells) (hsl : σ.2.2.2 ≤ u0 + R.slots) {n x : Int} (h1 : 2000000 ≤ n) (h2 : n < 2000048) (hx0 : 0 ≤ x) (hxl : x.toNat < (atx.getD ((n - 2000000).toNat) []).length)
    (K : Gw p l e R s m args below meth c Q D cA A ad0 M0 t0 c0 u0 nL (pc + 3) L ((0, ((atx.getD ((n - 2000000).toNat) []).getD x.toNat 0 : Int)) :: S) σ) : Gw p l e R s m args below meth c Q D cA A ad0 M0 t0 c0 u0 nL pc L ((0, x) :: (2, n) :: S) σ := by
  intro ad H locs ls cells slots hI
  obtain ⟨hx, hb, hml, hown, hts, hK, hA, hG⟩ := id hC
  have hS : ∀ v ∈ S, okV σ.2.1 v := fun w hw => hI.2.2.1 w (List.mem_cons_of_mem _ (List.mem_cons_of_mem _ hw))
  have hce := hI.2.2.2.2.2.2.1
  have hse := hI.2.2.2.2.2.2.2.1
  show W _ _ _ _ _ _ _ _ _ _ _ _ _ _ _ (F0 m pc ls (.int (Int32.ofInt x) :: cV ad (2, n) :: S.map (cV ad)))
  rw [cV_2 ad (by omega)]
  have e1 : ad n.toNat = ad0 (2000000 + ((n - 2000000).toNat)) := by
    have e0 : 2000000 + ((n - 2000000).toNat) = n.toNat := by omega
    rw [e0]
    exact hI.2.2.2.1 n.toNat (Or.inr (by omega))
  rw [e1]
  have hi : (n - 2000000).toNat < 48 := by omega
  generalize (n - 2000000).toNat = k at hi K e1 hxl ⊢
  have hbs := atx_ok k hi
  have hb8 := hbs.2 x.toNat hxl
  have ex : Int32.ofInt x = Int32.ofNat x.toNat := by
    have : x = (x.toNat : Int) := by omega
    conv => lhs; rw [this]
    rfl
  rw [ex]
  obtain ⟨q, j1, j2, j3, j4, j5, -⟩ := hG.str hi va_S.rf rfl (Vm.Alike.refl s.vm)
  have j6 : ∀ U : State, U.heap = H → s.WarmedH U.vm → jO (ad0 (2000000 + k)) U ∧ jCS U ∧ jCo (ad0 (2000000 + k)) U ∧ jVa (ad0 (2000000 + k)) q U ∧ jTx q (atx.getD k []) U ∧ jSi U := by
    intro U hU hW
    have hq : ∀ a : Nat, a < s.heap.size → ¬ A a → U.heap[a]? = s.heap[a]? := fun a h1 h2 => by rw [hU]; exact hI.1.2.2.1.2.1 a h1 h2
    have g4 := hG.2.2.2.2.2.2.2.2.2.2 k hi
    have g1 := hG.2.2.2.2.2.2.2.1
    obtain ⟨v, g2, g3⟩ := hG.2.2.2.2.2.2.2.2.1
    obtain ⟨q2, o1, o2, o3, o4⟩ := g4
    have no : ∀ q, noA q → A q := fun _ h => absurd h (fun h => h)
    obtain ⟨cf, kk, ii, ff, cl, f1, f2, f3, f4, f5, f6⟩ := id o3
    obtain ⟨cf', kk', ii', ff', cl', f1', f2', f3', f4', f5', f6'⟩ := id j4
    cases f1.symm.trans f1'
    cases f3.symm.trans f3'
    cases f5.symm.trans f5'
    exact ⟨((va_O.moved hW.alike o1).kept hq).narrow no, ((va_Z.moved hW.alike g1).kept hq).narrow no, ((va_OF.moved hW.alike o2).kept hq).narrow no, ((va_OF.moved hW.alike o3).kept hq).narrow no, ((va_T.moved hW.alike o4).kept hq).narrow no, v, ((va_Z.moved hW.alike g2).kept hq).narrow no, g3⟩
  have hcell : ∃ cellB : Cell, H[ad0 (2000000 + k)]? = some cellB ∧ cellB.vm.isStatics = false ∧ s.vm.findClass RJ0 = some cellB.cls := by
    obtain ⟨q2, o1, -⟩ := hG.2.2.2.2.2.2.2.2.2.2 k hi
    obtain ⟨cell, a1, a2, a3, -⟩ := o1.kept hI.1.2.2.1.2.1
    exact ⟨cell, a1, a2, a3⟩
  refine pu_call (va_runV (C := RJ0) (b := ad0 (2000000 + k)) (As := [.int (Int32.ofNat x.toNat)]) (rest := S.map (cV ad)) ⟨hx, hb, hml, hown, hts⟩ (c_charAt0 l (ad0 (2000000 + k)) q x.toNat (atx.getD k []) hxl hbs.1 hb8) ⟨callB_of 1 hts (fun w hw => (List.mem_cons.mp hw).elim (fun e => by subst e; exact ⟨gj_code_c0, gt_good gj_code_c0⟩) (fun h => ⟨h, gt_good h⟩)) rfl rfl rfl (hts _ gj_ini_str) (hts _ hw) (by decide +kernel) ⟨Nat.le_trans (by decide) hf, Nat.le_trans (by decide) hlo⟩, hts _ gj_i_c0, hts _ gj_s_c0⟩ ⟨blind (fun _ _ hv hh h => ⟨h.1.to hv hh, h.2.1.to hv hh, h.2.2.1.to hv hh, h.2.2.2.1.to hv hh, h.2.2.2.2.1.to hv hh, h.2.2.2.2.2.to hv hh⟩), hcell, fun U hU hW => ⟨rfl, j6 U hU hW⟩⟩ rfl rfl hI.2.1.1 rfl (lv_room (by rw [awd_sum hS]; exact hwd)) hdg ⟨by omega, by omega⟩) ?_
  exact K ad H locs ls cells slots (hI.stk (okV_cons (okV_i ⟨by omega, by omega⟩) hS))
theorem k_goto (hC : Cx p s m args c cc nL own D cA A ad0 M0) (off : Int) {tgt : Nat} (hdg : decode cc pc = .ok (.goto off, 3)) (ht : (pc : Int) + off = (tgt : Int)) (k : Gw p l e R s m args below meth c Q D cA A ad0 M0 t0 c0 u0 nL (tgt) L S σ) : Gw p l e R s m args below meth c Q D cA A ad0 M0 t0 c0 u0 nL (pc) L S σ := fun ad H locs ls cells slots hI => lv_goto hC.1 hC.2.1 hdg ht (k ad H locs ls cells slots hI)
theorem k_icmp_eq (hC : Cx p s m args c cc nL own D cA A ad0 M0) {a b : Int} (off : Int) {tgt : Nat} (hdg : decode cc pc = .ok (.if_icmp .eq off, 3)) (ht : (pc : Int) + off = (tgt : Int))
    (kt : a = b → Gw p l e R s m args below meth c Q D cA A ad0 M0 t0 c0 u0 nL (tgt) L S σ) (kf : ¬ (a = b) → Gw p l e R s m args below meth c Q D cA A ad0 M0 t0 c0 u0 nL (pc + 3) L S σ) : Gw p l e R s m args below meth c Q D cA A ad0 M0 t0 c0 u0 nL (pc) L ((0, b) :: (0, a) :: S) σ := by
  intro ad H locs ls cells slots hI
  have hb : aIn b := okV_int (hI.2.2.1 _ List.mem_cons_self)
  have ha : aIn a := okV_int (hI.2.2.1 _ (List.mem_cons_of_mem _ List.mem_cons_self))
  have hI1 := hI.stk (S1 := S) (fun w hw => hI.2.2.1 w (List.mem_cons_of_mem _ (List.mem_cons_of_mem _ hw)))
  exact lv_icmp_eq hC.1 hC.2.1 hdg ht (fun h => kt ((i32_eq ha hb).mp h) ad H locs ls cells slots hI1) (fun h => kf (fun h2 => h ((i32_eq ha hb).mpr h2)) ad H locs ls cells slots hI1)
theorem k_icmp_ne (hC : Cx p s m args c cc nL own D cA A ad0 M0) {a b : Int} (off : Int) {tgt : Nat} (hdg : decode cc pc = .ok (.if_icmp .ne off, 3)) (ht : (pc : Int) + off = (tgt : Int))
    (kt : ¬ a = b → Gw p l e R s m args below meth c Q D cA A ad0 M0 t0 c0 u0 nL (tgt) L S σ) (kf : ¬ (¬ a = b) → Gw p l e R s m args below meth c Q D cA A ad0 M0 t0 c0 u0 nL (pc + 3) L S σ) : Gw p l e R s m args below meth c Q D cA A ad0 M0 t0 c0 u0 nL (pc) L ((0, b) :: (0, a) :: S) σ := by
  intro ad H locs ls cells slots hI
  have hb : aIn b := okV_int (hI.2.2.1 _ List.mem_cons_self)
  have ha : aIn a := okV_int (hI.2.2.1 _ (List.mem_cons_of_mem _ List.mem_cons_self))
  have hI1 := hI.stk (S1 := S) (fun w hw => hI.2.2.1 w (List.mem_cons_of_mem _ (List.mem_cons_of_mem _ hw)))
  exact lv_icmp_ne hC.1 hC.2.1 hdg ht (fun h => kt ((not_congr (i32_eq ha hb)).mp h) ad H locs ls cells slots hI1) (fun h => kf (fun h2 => h2 ((i32_eq ha hb).mp h)) ad H locs ls cells slots hI1)
theorem k_icmp_lt (hC : Cx p s m args c cc nL own D cA A ad0 M0) {a b : Int} (off : Int) {tgt : Nat} (hdg : decode cc pc = .ok (.if_icmp .lt off, 3)) (ht : (pc : Int) + off = (tgt : Int))
    (kt : a < b → Gw p l e R s m args below meth c Q D cA A ad0 M0 t0 c0 u0 nL (tgt) L S σ) (kf : ¬ (a < b) → Gw p l e R s m args below meth c Q D cA A ad0 M0 t0 c0 u0 nL (pc + 3) L S σ) : Gw p l e R s m args below meth c Q D cA A ad0 M0 t0 c0 u0 nL (pc) L ((0, b) :: (0, a) :: S) σ := by
  intro ad H locs ls cells slots hI
  have hb : aIn b := okV_int (hI.2.2.1 _ List.mem_cons_self)
  have ha : aIn a := okV_int (hI.2.2.1 _ (List.mem_cons_of_mem _ List.mem_cons_self))
  have hI1 := hI.stk (S1 := S) (fun w hw => hI.2.2.1 w (List.mem_cons_of_mem _ (List.mem_cons_of_mem _ hw)))
  exact lv_icmp_lt hC.1 hC.2.1 hdg ht (fun h => kt ((i32_lt ha hb).mp h) ad H locs ls cells slots hI1) (fun h => kf (fun h2 => h ((i32_lt ha hb).mpr h2)) ad H locs ls cells slots hI1)
theorem k_icmp_ge (hC : Cx p s m args c cc nL own D cA A ad0 M0) {a b : Int} (off : Int) {tgt : Nat} (hdg : decode cc pc = .ok (.if_icmp .ge off, 3)) (ht : (pc : Int) + off = (tgt : Int))
    (kt : b ≤ a → Gw p l e R s m args below meth c Q D cA A ad0 M0 t0 c0 u0 nL (tgt) L S σ) (kf : ¬ (b ≤ a) → Gw p l e R s m args below meth c Q D cA A ad0 M0 t0 c0 u0 nL (pc + 3) L S σ) : Gw p l e R s m args below meth c Q D cA A ad0 M0 t0 c0 u0 nL (pc) L ((0, b) :: (0, a) :: S) σ := by
  intro ad H locs ls cells slots hI
  have hb : aIn b := okV_int (hI.2.2.1 _ List.mem_cons_self)
  have ha : aIn a := okV_int (hI.2.2.1 _ (List.mem_cons_of_mem _ List.mem_cons_self))
  have hI1 := hI.stk (S1 := S) (fun w hw => hI.2.2.1 w (List.mem_cons_of_mem _ (List.mem_cons_of_mem _ hw)))
  exact lv_icmp_ge hC.1 hC.2.1 hdg ht (fun h => kt ((i32_le hb ha).mp h) ad H locs ls cells slots hI1) (fun h => kf (fun h2 => h ((i32_le hb ha).mpr h2)) ad H locs ls cells slots hI1)
theorem k_icmp_gt (hC : Cx p s m args c cc nL own D cA A ad0 M0) {a b : Int} (off : Int) {tgt : Nat} (hdg : decode cc pc = .ok (.if_icmp .gt off, 3)) (ht : (pc : Int) + off = (tgt : Int))
    (kt : b < a → Gw p l e R s m args below meth c Q D cA A ad0 M0 t0 c0 u0 nL (tgt) L S σ) (kf : ¬ (b < a) → Gw p l e R s m args below meth c Q D cA A ad0 M0 t0 c0 u0 nL (pc + 3) L S σ) : Gw p l e R s m args below meth c Q D cA A ad0 M0 t0 c0 u0 nL (pc) L ((0, b) :: (0, a) :: S) σ := by
  intro ad H locs ls cells slots hI
  have hb : aIn b := okV_int (hI.2.2.1 _ List.mem_cons_self)
  have ha : aIn a := okV_int (hI.2.2.1 _ (List.mem_cons_of_mem _ List.mem_cons_self))
  have hI1 := hI.stk (S1 := S) (fun w hw => hI.2.2.1 w (List.mem_cons_of_mem _ (List.mem_cons_of_mem _ hw)))
  exact lv_icmp_gt hC.1 hC.2.1 hdg ht (fun h => kt ((i32_lt hb ha).mp h) ad H locs ls cells slots hI1) (fun h => kf (fun h2 => h ((i32_lt hb ha).mpr h2)) ad H locs ls cells slots hI1)
theorem k_icmp_le (hC : Cx p s m args c cc nL own D cA A ad0 M0) {a b : Int} (off : Int) {tgt : Nat} (hdg : decode cc pc = .ok (.if_icmp .le off, 3)) (ht : (pc : Int) + off = (tgt : Int))
    (kt : a ≤ b → Gw p l e R s m args below meth c Q D cA A ad0 M0 t0 c0 u0 nL (tgt) L S σ) (kf : ¬ (a ≤ b) → Gw p l e R s m args below meth c Q D cA A ad0 M0 t0 c0 u0 nL (pc + 3) L S σ) : Gw p l e R s m args below meth c Q D cA A ad0 M0 t0 c0 u0 nL (pc) L ((0, b) :: (0, a) :: S) σ := by
  intro ad H locs ls cells slots hI
  have hb : aIn b := okV_int (hI.2.2.1 _ List.mem_cons_self)
  have ha : aIn a := okV_int (hI.2.2.1 _ (List.mem_cons_of_mem _ List.mem_cons_self))
  have hI1 := hI.stk (S1 := S) (fun w hw => hI.2.2.1 w (List.mem_cons_of_mem _ (List.mem_cons_of_mem _ hw)))
  exact lv_icmp_le hC.1 hC.2.1 hdg ht (fun h => kt ((i32_le ha hb).mp h) ad H locs ls cells slots hI1) (fun h => kf (fun h2 => h ((i32_le ha hb).mpr h2)) ad H locs ls cells slots hI1)
theorem k_if_eq (hC : Cx p s m args c cc nL own D cA A ad0 M0) {a : Int} (off : Int) {tgt : Nat} (hdg : decode cc pc = .ok (.ifCond .eq off, 3)) (ht : (pc : Int) + off = (tgt : Int))
    (kt : a = 0 → Gw p l e R s m args below meth c Q D cA A ad0 M0 t0 c0 u0 nL (tgt) L S σ) (kf : ¬ (a = 0) → Gw p l e R s m args below meth c Q D cA A ad0 M0 t0 c0 u0 nL (pc + 3) L S σ) : Gw p l e R s m args below meth c Q D cA A ad0 M0 t0 c0 u0 nL (pc) L ((0, a) :: S) σ := by
  intro ad H locs ls cells slots hI
  have hz : aIn 0 := ⟨by decide, by decide⟩
  have ha : aIn a := okV_int (hI.2.2.1 _ List.mem_cons_self)
  have hI1 := hI.stk (S1 := S) (fun w hw => hI.2.2.1 w (List.mem_cons_of_mem _ hw))
  exact lv_if_eq hC.1 hC.2.1 hdg ht (fun h => kt ((i32_eq ha hz).mp h) ad H locs ls cells slots hI1) (fun h => kf (fun h2 => h ((i32_eq ha hz).mpr h2)) ad H locs ls cells slots hI1)
theorem k_if_ne (hC : Cx p s m args c cc nL own D cA A ad0 M0) {a : Int} (off : Int) {tgt : Nat} (hdg : decode cc pc = .ok (.ifCond .ne off, 3)) (ht : (pc : Int) + off = (tgt : Int))
    (kt : ¬ a = 0 → Gw p l e R s m args below meth c Q D cA A ad0 M0 t0 c0 u0 nL (tgt) L S σ) (kf : ¬ (¬ a = 0) → Gw p l e R s m args below meth c Q D cA A ad0 M0 t0 c0 u0 nL (pc + 3) L S σ) : Gw p l e R s m args below meth c Q D cA A ad0 M0 t0 c0 u0 nL (pc) L ((0, a) :: S) σ := by
  intro ad H locs ls cells slots hI
  have hz : aIn 0 := ⟨by decide, by decide⟩
  have ha : aIn a := okV_int (hI.2.2.1 _ List.mem_cons_self)
  have hI1 := hI.stk (S1 := S) (fun w hw => hI.2.2.1 w (List.mem_cons_of_mem _ hw))
  exact lv_if_ne hC.1 hC.2.1 hdg ht (fun h => kt ((not_congr (i32_eq ha hz)).mp h) ad H locs ls cells slots hI1) (fun h => kf (fun h2 => h2 ((i32_eq ha hz).mp h)) ad H locs ls cells slots hI1)
theorem k_if_lt (hC : Cx p s m args c cc nL own D cA A ad0 M0) {a : Int} (off : Int) {tgt : Nat} (hdg : decode cc pc = .ok (.ifCond .lt off, 3)) (ht : (pc : Int) + off = (tgt : Int))
    (kt : a < 0 → Gw p l e R s m args below meth c Q D cA A ad0 M0 t0 c0 u0 nL (tgt) L S σ) (kf : ¬ (a < 0) → Gw p l e R s m args below meth c Q D cA A ad0 M0 t0 c0 u0 nL (pc + 3) L S σ) : Gw p l e R s m args below meth c Q D cA A ad0 M0 t0 c0 u0 nL (pc) L ((0, a) :: S) σ := by
  intro ad H locs ls cells slots hI
  have hz : aIn 0 := ⟨by decide, by decide⟩
  have ha : aIn a := okV_int (hI.2.2.1 _ List.mem_cons_self)
  have hI1 := hI.stk (S1 := S) (fun w hw => hI.2.2.1 w (List.mem_cons_of_mem _ hw))
  exact lv_if_lt hC.1 hC.2.1 hdg ht (fun h => kt ((i32_lt ha hz).mp h) ad H locs ls cells slots hI1) (fun h => kf (fun h2 => h ((i32_lt ha hz).mpr h2)) ad H locs ls cells slots hI1)
theorem k_if_ge (hC : Cx p s m args c cc nL own D cA A ad0 M0) {a : Int} (off : Int) {tgt : Nat} (hdg : decode cc pc = .ok (.ifCond .ge off, 3)) (ht : (pc : Int) + off = (tgt : Int))
    (kt : 0 ≤ a → Gw p l e R s m args below meth c Q D cA A ad0 M0 t0 c0 u0 nL (tgt) L S σ) (kf : ¬ (0 ≤ a) → Gw p l e R s m args below meth c Q D cA A ad0 M0 t0 c0 u0 nL (pc + 3) L S σ) : Gw p l e R s m args below meth c Q D cA A ad0 M0 t0 c0 u0 nL (pc) L ((0, a) :: S) σ := by
  intro ad H locs ls cells slots hI
  have hz : aIn 0 := ⟨by decide, by decide⟩
  have ha : aIn a := okV_int (hI.2.2.1 _ List.mem_cons_self)
  have hI1 := hI.stk (S1 := S) (fun w hw => hI.2.2.1 w (List.mem_cons_of_mem _ hw))
  exact lv_if_ge hC.1 hC.2.1 hdg ht (fun h => kt ((i32_le hz ha).mp h) ad H locs ls cells slots hI1) (fun h => kf (fun h2 => h ((i32_le hz ha).mpr h2)) ad H locs ls cells slots hI1)
theorem k_if_gt (hC : Cx p s m args c cc nL own D cA A ad0 M0) {a : Int} (off : Int) {tgt : Nat} (hdg : decode cc pc = .ok (.ifCond .gt off, 3)) (ht : (pc : Int) + off = (tgt : Int))
    (kt : 0 < a → Gw p l e R s m args below meth c Q D cA A ad0 M0 t0 c0 u0 nL (tgt) L S σ) (kf : ¬ (0 < a) → Gw p l e R s m args below meth c Q D cA A ad0 M0 t0 c0 u0 nL (pc + 3) L S σ) : Gw p l e R s m args below meth c Q D cA A ad0 M0 t0 c0 u0 nL (pc) L ((0, a) :: S) σ := by
  intro ad H locs ls cells slots hI
  have hz : aIn 0 := ⟨by decide, by decide⟩
  have ha : aIn a := okV_int (hI.2.2.1 _ List.mem_cons_self)
  have hI1 := hI.stk (S1 := S) (fun w hw => hI.2.2.1 w (List.mem_cons_of_mem _ hw))
  exact lv_if_gt hC.1 hC.2.1 hdg ht (fun h => kt ((i32_lt hz ha).mp h) ad H locs ls cells slots hI1) (fun h => kf (fun h2 => h ((i32_lt hz ha).mpr h2)) ad H locs ls cells slots hI1)
theorem k_if_le (hC : Cx p s m args c cc nL own D cA A ad0 M0) {a : Int} (off : Int) {tgt : Nat} (hdg : decode cc pc = .ok (.ifCond .le off, 3)) (ht : (pc : Int) + off = (tgt : Int))
    (kt : a ≤ 0 → Gw p l e R s m args below meth c Q D cA A ad0 M0 t0 c0 u0 nL (tgt) L S σ) (kf : ¬ (a ≤ 0) → Gw p l e R s m args below meth c Q D cA A ad0 M0 t0 c0 u0 nL (pc + 3) L S σ) : Gw p l e R s m args below meth c Q D cA A ad0 M0 t0 c0 u0 nL (pc) L ((0, a) :: S) σ := by
  intro ad H locs ls cells slots hI
  have hz : aIn 0 := ⟨by decide, by decide⟩
  have ha : aIn a := okV_int (hI.2.2.1 _ List.mem_cons_self)
  have hI1 := hI.stk (S1 := S) (fun w hw => hI.2.2.1 w (List.mem_cons_of_mem _ hw))
  exact lv_if_le hC.1 hC.2.1 hdg ht (fun h => kt ((i32_le ha hz).mp h) ad H locs ls cells slots hI1) (fun h => kf (fun h2 => h ((i32_le ha hz).mpr h2)) ad H locs ls cells slots hI1)
theorem k_ifnull (hC : Cx p s m args c cc nL own D cA A ad0 M0) {n : Int} (off : Int) {tgt : Nat} (hdg : decode cc pc = .ok (.ifnull off, 3)) (ht : (pc : Int) + off = (tgt : Int))
    (kn : n < 0 → Gw p l e R s m args below meth c Q D cA A ad0 M0 t0 c0 u0 nL (tgt) L S σ) (kr : ¬ n < 0 → Gw p l e R s m args below meth c Q D cA A ad0 M0 t0 c0 u0 nL (pc + 3) L S σ) : Gw p l e R s m args below meth c Q D cA A ad0 M0 t0 c0 u0 nL (pc) L ((2, n) :: S) σ := by
  intro ad H locs ls cells slots hI
  have hI1 := hI.stk (S1 := S) (fun w hw => hI.2.2.1 w (List.mem_cons_of_mem _ hw))
  show W _ _ _ _ _ _ _ _ _ _ _ _ _ _ _ (F0 m pc ls (cV ad (2, n) :: S.map (cV ad)))
  by_cases hn : n < 0
  · rw [cV_n ad hn]
    exact lv_ifnullN hC.1 hC.2.1 hdg ht (kn hn ad H locs ls cells slots hI1)
  · rw [cV_2 ad (by omega)]
    exact lv_ifnull hC.1 hC.2.1 hdg (kr hn ad H locs ls cells slots hI1)
theorem k_ifnonnull (hC : Cx p s m args c cc nL own D cA A ad0 M0) {n : Int} (off : Int) {tgt : Nat} (hdg : decode cc pc = .ok (.ifnonnull off, 3)) (ht : (pc : Int) + off = (tgt : Int))
    (kn : n < 0 → Gw p l e R s m args below meth c Q D cA A ad0 M0 t0 c0 u0 nL (pc + 3) L S σ) (kr : ¬ n < 0 → Gw p l e R s m args below meth c Q D cA A ad0 M0 t0 c0 u0 nL (tgt) L S σ) : Gw p l e R s m args below meth c Q D cA A ad0 M0 t0 c0 u0 nL (pc) L ((2, n) :: S) σ := by
  intro ad H locs ls cells slots hI
  have hI1 := hI.stk (S1 := S) (fun w hw => hI.2.2.1 w (List.mem_cons_of_mem _ hw))
  show W _ _ _ _ _ _ _ _ _ _ _ _ _ _ _ (F0 m pc ls (cV ad (2, n) :: S.map (cV ad)))
  by_cases hn : n < 0
  · rw [cV_n ad hn]
    exact lv_ifnonnullN hC.1 hC.2.1 hdg (kn hn ad H locs ls cells slots hI1)
  · rw [cV_2 ad (by omega)]
    exact lv_ifnonnull hC.1 hC.2.1 hdg ht (kr hn ad H locs ls cells slots hI1)
theorem k_table (hC : Cx p s m args c cc nL own D cA A ad0 M0) {a : Int} (dflt lo hi : Int) (offs : Array Int) (len : Nat) {tgt : Nat} (hdg : decode cc pc = .ok (.tableswitch dflt lo hi offs, len))
    (h : ((a < lo ∨ hi < a) ∧ (pc : Int) + dflt = (tgt : Int)) ∨ ∃ off, ¬ (a < lo ∨ hi < a) ∧ offs[(a - lo).toNat]? = some off ∧ (pc : Int) + off = (tgt : Int)) (k : Gw p l e R s m args below meth c Q D cA A ad0 M0 t0 c0 u0 nL (tgt) L S σ) : Gw p l e R s m args below meth c Q D cA A ad0 M0 t0 c0 u0 nL (pc) L ((0, a) :: S) σ := by
  intro ad H locs ls cells slots hI
  have ha : aIn a := okV_int (hI.2.2.1 _ List.mem_cons_self)
  have hI1 := hI.stk (S1 := S) (fun w hw => hI.2.2.1 w (List.mem_cons_of_mem _ hw))
  rcases h with ⟨h1, h2⟩ | ⟨off, h1, h2, h3⟩
  · exact lv_tableOut hC.1 hC.2.1 hdg (by rw [i32_toInt ha]; exact h1) h2 (k ad H locs ls cells slots hI1)
  · exact lv_tableIn hC.1 hC.2.1 hdg (by rw [i32_toInt ha]; exact fun q => h1 (Or.inl q)) (by rw [i32_toInt ha]; exact fun q => h1 (Or.inr q)) (by rw [i32_toInt ha]; exact h2) h3 (k ad H locs ls cells slots hI1)
theorem k_look (hC : Cx p s m args c cc nL own D cA A ad0 M0) {a : Int} (dflt : Int) (ps : Array (Int × Int)) (len : Nat) {tgt : Nat} (hdg : decode cc pc = .ok (.lookupswitch dflt ps, len)) (hp : (ps.toList.zip (ps.toList.drop 1)).all (fun (a, next) => a.1 < next.1) = true) (ht : (pc : Int) + Op.lookupswitch.offset ps.toList dflt a = (tgt : Int)) (k : Gw p l e R s m args below meth c Q D cA A ad0 M0 t0 c0 u0 nL (tgt) L S σ) : Gw p l e R s m args below meth c Q D cA A ad0 M0 t0 c0 u0 nL (pc) L ((0, a) :: S) σ := by
  intro ad H locs ls cells slots hI
  have ha : aIn a := okV_int (hI.2.2.1 _ List.mem_cons_self)
  have hI1 := hI.stk (S1 := S) (fun w hw => hI.2.2.1 w (List.mem_cons_of_mem _ hw))
  exact lv_lookup hC.1 hC.2.1 hdg hp (by rw [i32_toInt ha]) ht (k ad H locs ls cells slots hI1)
end Jmp

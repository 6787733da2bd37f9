/-! THE CLAIM OUT OF ONE WALK OF THE LAW'S BODY. Your part is whole_start (and what it stands on); all else here is the same for every law, but numbers. -/
def R_law : String := "WellVoiceLaw"
def lw_P (b : Addr) (xs : List Int32) (args : Array Value) (s : State) : Prop := args = #[.ref b] ∧ s.IntsAt b xs ∧ xs.length ≤ 3072 ∧ (Jvm.Cond.and given_1 narrow_1).before args s = true
def lw_Q (_ : Array Value) (s : State) (o : Outcome) (t : State) : Prop := o = .returned (some (.int 1)) ∧ Framed s o t [] 601024 7293034
def lw_Z (below : List Frame) (a : Array Value) (s : State) : State → Prop := fun t => ∃ o, t.status = .running ∧ Ended t below o ∧ lw_Q a s o t
/-- the law's own end, with 1 on the stack, nothing written that was there before, its room as the claim has it -/
theorem lw_ret {p : Program} {l : Launch} {e : Env} {s : State} {m : MethodId} {below : List Frame} {meth : Method} {c : Code} {b : Nat} (hx : p.tables.exec = Jvm.exec) (hb : c.code = code) (hr : meth.sig.returnType = ret) (hlocks : meth.locks = false) {pc : Nat} {H : Heap} {ls : Array Slot} (hdg : decode code pc = .ok (.ireturn, 1)) : W p l e room_1 s m #[Value.ref b] below meth c H [] 601024 7293034 (lw_Z below #[Value.ref b] s) (F0 m pc ls [.int 1]) := by
  intro T hT X
  obtain ⟨fs, hret, hrun, hended, hW, hframe⟩ := X.leave (v := some (.int 1)) (hlocks := hlocks) (fun h => by rw [hr] at h; cases h)
  have hmeth' : T.vm.method? m = some meth := X.method'
  refine ⟨T.setFrames fs, ?_, .returned (some (.int 1)), hrun, hended, rfl, ⟨_, rfl⟩, hW, hframe⟩
  jvm_step X.here [X.here.top, hx, hb, hdg, hmeth', hr, ret, narrow_b1]
  (try refine ⟨rfl, ?_⟩); (try refine ⟨rfl, ?_⟩)
  first | (intro acts; rw [hret _ acts rfl rfl rfl]) | rw [hret _ _ rfl rfl rfl]
  exact Steps.refl _
/-- what holds at the law's entry: the machine, the code, the tables' words (any of lw_tbl by 'hts w (by decide +kernel)'), the script of L ints xs at the cell b, what the Statement gives of the start (any of its parts by flat_of_before) -/
def lw_At (p : Program) (s : State) (m : MethodId) (meth : Method) (c : Code) (b L : Nat) (xs : Nat → Int32) : Prop :=
  p.tables.exec = Jvm.exec ∧ c.code = code ∧ meth.sig.returnType = ret ∧ c.maxLocals = 7 ∧ s.vm.findClass R_law = some m.cls ∧ (∀ w ∈ lw_tbl, w.before #[Value.ref b] s = true) ∧ va_X b L xs s s.heap ∧ b < s.heap.size ∧ meth.locks = false ∧ (Jvm.Cond.and given_1 narrow_1).before #[Value.ref b] s = true
/-! ===== the start of the law: the words of the Statement give what the walk asks ===== -/
def rmA : List Int := [1, 8, 10, 3, 4, 4, 4, 5]
/-- the store at the law's start: nothing made; the script, and the static row -/
def M0a (xs : Nat → Int32) (L : Nat) : aM := fun n k => if n = 1000000 then (if k = 5000 then (L : Int) else (xs k).toInt) else if n = 1000001 then rmA.getD k 0 else 0
section Start
variable {p : Program} {s : State} {m : MethodId} {meth : Method} {c : Code} {b L : Nat} {xs : Nat → Int32}
def stA (s : State) : Nat → Prop := fun q => s.heap.size ≤ q
theorem gt_lw {args : Array Value} (hts : ∀ w ∈ lw_tbl, w.before args s = true) : ∀ w ∈ gt, w.before args s = true := fun w hw => hts w (List.mem_filter.mp hw).1
/-- the sorts of objects -/
theorem st_D {args : Array Value} (hts : ∀ w ∈ lw_tbl, w.before args s = true) : ∃ D : va_G, ∀ (ci : Nat) (q : vw_C), vwCl[ci]? = some q → u_Kn s q.1 q.2.1 q.2.2 (D.1 ci) (D.2 ci) := by
  have h : ∀ ci : Nat, ∃ z : ClassId × (Nat → Nat), ∀ q : vw_C, vwCl[ci]? = some q → u_Kn s q.1 q.2.1 q.2.2 z.1 z.2 := by
    intro ci
    by_cases hci : ci < 14
    · obtain ⟨C, T, N, ty0, c1, c2, c3, -⟩ := okCl_all ci hci
      have hq : Cond.instantiable C N ∈ gt := by
        have h5 := QT_ok ci (show ci ∈ QT by
          have : ∀ k, k < 14 → k ∈ QT := by decide +kernel
          exact this ci hci)
        simp only [wIt, (cT_of c1).2, ← c2] at h5
        exact h5
      obtain ⟨cC, iS, hk⟩ := u_known (ws := gt) (gt_lw hts) c3 (gt_lw hts _ hq)
      exact ⟨(cC, iS), fun q hq => by cases c1.symm.trans hq; exact hk⟩
    · refine ⟨(0, fun _ => 0), fun q hq => ?_⟩
      have : vwCl.length = 14 := rfl
      rw [List.getElem?_eq_none (by omega)] at hq
      cases hq
  obtain ⟨f, hf⟩ := Classical.axiomOfChoice h
  exact ⟨(fun k => (f k).1, fun k => (f k).2), fun ci q hq => hf ci q hq⟩
theorem st_ao {args : Array Value} (hts : ∀ w ∈ lw_tbl, w.before args s = true) : va_AO RX8 s := by
  have h : decide (Cond.arrayOver (.object RX8) ∈ lw_tbl) = true := by decide +kernel
  exact va_AO.of (hts _ (of_decide_eq_true h))
/-- the sorts of arrays -/
theorem st_cA {args : Array Value} (hts : ∀ w ∈ lw_tbl, w.before args s = true) : ∃ cA : Nat → ClassId, ∀ (k : Nat) (q : ClassId × FieldType), (tyL cA)[k]? = some q → ArrOfT s q.1 q.2 ∧ va_RA s q.1 q.2 := by
  have pr : ∀ ty : FieldType, Cond.arrayClass ty ∈ gt → ∃ c, ArrOfT s c ty ∧ s.vm.findClass ("[" ++ ty.toString) = some c := by
    intro ty h
    obtain ⟨c, k, comp, h1, h2, h3⟩ := Cond.arrayClass_spec (gt_lw hts _ h)
    exact ⟨c, fun n z => ⟨fun k h => (by cases h), k, h2, comp, h3⟩, h1⟩
  obtain ⟨c0, a0, f0⟩ := pr .int ga_int
  obtain ⟨c1, a1, f1⟩ := pr .byte ga_byte
  obtain ⟨c2, a2, f2⟩ := pr .long ga_long
  obtain ⟨comp, c3, k3, h1, h2, h3, h4, h5⟩ := Cond.arrayOver_spec (st_ao hts)
  refine ⟨fun k => if k = 0 then c0 else if k = 1 then c1 else if k = 2 then c2 else c3, fun k q hq => ?_⟩
  match k, hq with
  | 0, hq => cases hq; exact ⟨a0, f0⟩
  | 1, hq => cases hq; exact ⟨a1, f1⟩
  | 2, hq => cases hq; exact ⟨a2, f2⟩
  | 3, hq => cases hq; exact ⟨fun n z => ⟨fun k h => (by cases h), k3, h3, comp, h4⟩, k3, comp, h3, h4, h1, h5⟩
  | k + 4, hq => exact absurd hq (by simp [tyL])
theorem st_in {args : Array Value} {w : Cond} (hts : ∀ w ∈ lw_tbl, w.before args s = true) (h : decide (w ∈ lw_tbl) = true) : w.before args s = true := hts _ (of_decide_eq_true h)
/-- the words of the 48 texts -/
def stT (i : Nat) : Term := .string (asO.getD i ("", 0, "")).1 (asO.getD i ("", 0, "")).2.1
def stW (i : Nat) : List Cond := Cond.exactly (stT i) "java/lang/String" :: Cond.eq (.field (stT i) "java/lang/String" "coder" "B") (.int 0) :: Cond.arrayOf (.field (stT i) "java/lang/String" "value" "[B") .byte :: Cond.eq (.length (.field (stT i) "java/lang/String" "value" "[B")) (.int (Int32.ofNat (atx.getD i []).length)) :: (List.range (atx.getD i []).length).map (fun j => Cond.eq (.elem (.field (stT i) "java/lang/String" "value" "[B") (.int (Int32.ofNat j))) (.int (Int32.ofNat ((atx.getD i []).getD j 0))))
def stP : List Nat := [102, 110, 118, 129, 138, 146, 154, 161, 200, 206, 215, 224, 36, 44, 52, 59, 68, 76, 84, 94, 168, 176, 183, 191, 232, 271, 280, 288, 298, 307, 316, 327, 241, 250, 259, 336, 346, 355, 364, 372, 380, 389, 397, 406, 416, 423, 433, 443]
theorem stW_at : (List.range 48).all (fun i => decide (((flatC (Jvm.Cond.and given_1 narrow_1)).drop (stP.getD i 0)).take (stW i).length = stW i)) = true := by decide +kernel
def stPR : List Nat := [697, 718, 719, 732, 733, 750, 751, 766, 779, 792, 805, 806, 316, 317, 318, 319, 320, 321, 322, 323, 775, 776, 777, 778, 1731, 1763, 1780, 1781, 1782, 1783, 1784, 1785, 1749, 1761, 1762, 1790, 1791, 1816, 1817, 1818, 1826, 1827, 1828, 1829, 1830, 1843, 1856, 1857]
theorem stR_in : (List.range 48).all (fun i => decide (lw_tbl[stPR.getD i 0]? = some (Cond.stringRef (asO.getD i ("", 0, "")).1 (asO.getD i ("", 0, "")).2.1 (asO.getD i ("", 0, "")).2.2)) && decide ((atx.getD i []).length < 2 ^ 31)) = true := by decide +kernel
theorem stL : asO.length = 48 := by decide +kernel
theorem st_tx {args : Array Value} {A : Nat → Prop} (hts : ∀ w ∈ lw_tbl, w.before args s = true) (hgv : (Jvm.Cond.and given_1 narrow_1).before args s = true) (hA : ∀ a : Nat, a < s.heap.size → ¬ A a) : ∃ ad : Nat → Nat, ∀ i : Nat, i < 48 →
    vk_R (asO.getD i ("", 0, "")).1 (asO.getD i ("", 0, "")).2.1 (asO.getD i ("", 0, "")).2.2 (ad i) s ∧ ∃ q : Nat, va_O "java/lang/String" (ad i) A s s.heap ∧ va_OF "java/lang/String" "coder" "B" (.int 0) (ad i) A s s.heap ∧ va_OF "java/lang/String" "value" "[B" (.ref q) (ad i) A s s.heap ∧ va_T .byte q (atx.getD i []).length (fun j => .int (Int32.ofNat ((atx.getD i []).getD j 0))) A s s.heap := by
  have h0 : ∀ i : Nat, ∃ a : Nat, i < 48 → vk_R (asO.getD i ("", 0, "")).1 (asO.getD i ("", 0, "")).2.1 (asO.getD i ("", 0, "")).2.2 a s ∧ ∃ q : Nat, va_O "java/lang/String" a A s s.heap ∧ va_OF "java/lang/String" "coder" "B" (.int 0) a A s s.heap ∧ va_OF "java/lang/String" "value" "[B" (.ref q) a A s s.heap ∧ va_T .byte q (atx.getD i []).length (fun j => .int (Int32.ofNat ((atx.getD i []).getD j 0))) A s s.heap := by
    intro i
    by_cases hi : i < 48
    · have hfl := flat_of_before _ hgv
      have h1 := of_decide_eq_true (List.all_eq_true.mp stW_at i (List.mem_range.mpr hi))
      have hw : ∀ w ∈ stW i, w.before args s = true := fun w hw => hfl w (List.mem_of_mem_drop (List.mem_of_mem_take (by rw [h1]; exact hw)))
      have h2 := List.all_eq_true.mp stR_in i (List.mem_range.mpr hi)
      simp only [Bool.and_eq_true, decide_eq_true_eq] at h2
      have hR := hts _ (List.mem_of_getElem? h2.1)
      have hex := hw _ List.mem_cons_self
      have hco := hw _ (List.mem_cons_of_mem _ List.mem_cons_self)
      have har := hw _ (List.mem_cons_of_mem _ (List.mem_cons_of_mem _ List.mem_cons_self))
      have hle := hw _ (List.mem_cons_of_mem _ (List.mem_cons_of_mem _ (List.mem_cons_of_mem _ List.mem_cons_self)))
      have hel : ∀ j : Nat, j < (atx.getD i []).length → (Cond.eq (.elem (.field (stT i) "java/lang/String" "value" "[B") (.int (Int32.ofNat j))) (.int (Int32.ofNat ((atx.getD i []).getD j 0)))).before args s = true := fun j hj => hw _ (List.mem_cons_of_mem _ (List.mem_cons_of_mem _ (List.mem_cons_of_mem _ (List.mem_cons_of_mem _ (List.mem_map.mpr ⟨j, List.mem_range.mpr hj, rfl⟩)))))
      obtain ⟨a, c, cA, kA, q1, q2, q3, q4, q5, q6, -⟩ := Cond.exactly_spec (args := args) (first := s) (o := none) (s := s) (idx := []) (t := stT i) (cls := "java/lang/String") hex
      obtain ⟨t, ht, hT⟩ := va_Tof (f := fun j => .int (Int32.ofNat ((atx.getD i []).getD j 0))) (A := A) h2.2 har (va_eqt hle) (fun j hj => va_eqt (hel j hj)) hA
      exact ⟨a, fun _ => ⟨vk_R.of hR q1, t, ⟨cA, q3, q5, by rw [q6]; exact q2, hA a (Array.getElem?_eq_some_iff.mp q3).1⟩, vk_OFof q1 (va_eqt hco) hA, vk_OFof q1 ht hA, hT⟩⟩
    · exact ⟨0, fun h => absurd h hi⟩
  exact Classical.axiomOfChoice h0
def stRm : Term := .static RX11 "ROOM" "[I"
def stRW : List Cond := Cond.arrayOf stRm .int :: Cond.eq (.length stRm) (.int 8) :: (List.range 8).map (fun j => Cond.eq (.elem stRm (.int (Int32.ofNat j))) (.int (Int32.ofInt (rmA.getD j 0))))
theorem stRW_in : stRW.all (fun w => (flatC (Jvm.Cond.and given_1 narrow_1)).contains w) = true := by decide +kernel
theorem st_gl {args : Array Value} (hts : ∀ w ∈ lw_tbl, w.before args s = true) (hgv : (Jvm.Cond.and given_1 narrow_1).before args s = true) (hX : va_X b L xs s s.heap) (hb : b < s.heap.size) (hL : L ≤ 3072) : ∃ ad0 : Nat → Nat, ad0 1000000 = b ∧ Gl ad0 (stA s) (M0a xs L) s s.heap := by
  have hA : ∀ a : Nat, a < s.heap.size → ¬ stA s a := fun a h h1 => absurd h (Nat.not_lt.mpr h1)
  obtain ⟨adT, hT⟩ := st_tx hts hgv hA
  have hfl := flat_of_before _ hgv
  have hw : ∀ w ∈ stRW, w.before args s = true := fun w hw => hfl w (List.contains_iff_mem.mp (List.all_eq_true.mp stRW_in w hw))
  obtain ⟨t, ht, hTr⟩ := va_Tof (tm := stRm) (N := 8) (f := fun j => .int (Int32.ofInt (rmA.getD j 0))) (A := stA s) (by decide) (hw _ List.mem_cons_self) (va_eqt (hw _ (List.mem_cons_of_mem _ List.mem_cons_self))) (fun j hj => va_eqt (hw _ (List.mem_cons_of_mem _ (List.mem_cons_of_mem _ (List.mem_map.mpr ⟨j, List.mem_range.mpr hj, rfl⟩))))) hA
  refine ⟨fun n => if n = 1000000 then b else if n = 1000001 then t else adT (n - 2000000), rfl, fun w hw => va_Nw.of (gN_ot w (List.mem_filter.mp hw).2) (hts w (List.mem_filter.mp hw).1), ⟨st_ao hts, ?_, ?_⟩, ?_, ?_, trivial, ?_, ?_, ?_, ?_, ?_, ?_⟩
  · exact vx_Zqof (st_in hts (by decide +kernel)) (st_in hts (by decide +kernel)) (hfl _ (by decide +kernel)) hA
  · exact vx_Zqof (st_in hts (by decide +kernel)) (st_in hts (by decide +kernel)) (hfl _ (by decide +kernel)) hA
  · exact va_Zof (st_in hts (by decide +kernel)) (st_in hts (by decide +kernel)) ht hA
  · exact hTr
  · obtain ⟨scr, x1, x2, x3, x4, x5⟩ := hX
    refine ⟨scr, x1, x2, x3, x4.trans (show L = ((L : Int)).toNat from (Int.toNat_natCast L).symm), fun j hj => ?_⟩
    have hj : j < L := by
      have e : (M0a xs L 1000000 5000).toNat = L := Int.toNat_natCast L
      omega
    rw [x5 j hj]
    show some (Value.int (xs j)) = some (Value.int (Int32.ofInt (M0a xs L 1000000 j)))
    have e : M0a xs L 1000000 j = (xs j).toInt := by
      show (if j = 5000 then (L : Int) else (xs j).toInt) = _
      rw [if_neg (by omega)]
    rw [e, Int32.ofInt_toInt]
  · exact hA b hb
  · exact va_Zof (st_in hts (by decide +kernel)) (st_in hts (by decide +kernel)) (va_eqt (hfl _ (by decide +kernel))) hA
  · rcases va_Zqof (C := "jdk/internal/util/Preconditions") (n := "SIOOBE_FORMATTER") (d := "Ljava/util/function/BiFunction;") (st_in hts (by decide +kernel)) (st_in hts (by decide +kernel)) (hfl _ (by decide +kernel)) hA with h | ⟨t, h⟩
    · exact ⟨_, h, Or.inl rfl⟩
    · exact ⟨_, h, Or.inr ⟨t, rfl⟩⟩
  · intro i q hq
    have hi : i < 48 := by rw [← stL]; exact (List.getElem?_eq_some_iff.mp hq).1
    have e : asO.getD i ("", 0, "") = q := by rw [List.getD_eq_getElem?_getD, hq]; rfl
    have h := (hT i hi).1
    rw [e] at h
    show vk_R _ _ _ (if 2000000 + i = 1000000 then b else if 2000000 + i = 1000001 then t else adT (2000000 + i - 2000000)) s
    rw [if_neg (by omega), if_neg (by omega), Nat.add_sub_cancel_left]
    exact h
  · intro i hi
    obtain ⟨q, h⟩ := (hT i hi).2
    refine ⟨q, ?_⟩
    have e : (if 2000000 + i = 1000000 then b else if 2000000 + i = 1000001 then t else adT (2000000 + i - 2000000)) = adT i := by rw [if_neg (by omega), if_neg (by omega), Nat.add_sub_cancel_left]
    show va_O "java/lang/String" (if 2000000 + i = 1000000 then b else if 2000000 + i = 1000001 then t else adT (2000000 + i - 2000000)) _ _ _ ∧ va_OF _ _ _ _ (if 2000000 + i = 1000000 then b else if 2000000 + i = 1000001 then t else adT (2000000 + i - 2000000)) _ _ _ ∧ va_OF _ _ _ _ (if 2000000 + i = 1000000 then b else if 2000000 + i = 1000001 then t else adT (2000000 + i - 2000000)) _ _ _ ∧ _
    rw [e]
    exact h
theorem st_cx (C0 : lw_At p s m meth c b L xs) (hL : L ≤ 3072) : ∃ (D : va_G) (cA : Nat → ClassId) (ad0 : Nat → Nat), ad0 1000000 = b ∧ Cx p s m #[Value.ref b] c (mC 334) (mL 334) (mY 334).cls D cA (stA s) ad0 (M0a xs L) := by
  obtain ⟨h1, h2, h3, h4, h5, h6, h7, h8, h9, h10⟩ := C0
  obtain ⟨D, hD⟩ := st_D h6
  obtain ⟨cA, hcA⟩ := st_cA h6
  obtain ⟨ad0, e, hG⟩ := st_gl h6 h10 h7 h8 hL
  exact ⟨D, cA, ad0, e, h1, h2, h4, h5, gt_lw h6, ⟨hD, hcA⟩, fun q h => h, hG⟩
/-- what is left, of the pure machine alone -/
def PURE : Prop := ∀ (L : Nat) (xs : Nat → Int32), L ≤ 3072 → ∃ n σ1, exec aB mL mK 167 n 17 334 0 [] (aent 7 [(2, 1000000)]) [] (M0a xs L, 0, 0, 0) = some (some (0, 1), σ1) ∧ σ1.2.2.1 ≤ 601024 ∧ σ1.2.2.2 ≤ 7293034
theorem M0a_in (hL : L ≤ 3072) (n k : Nat) : aIn (M0a xs L n k) := by
  unfold M0a
  split
  · split
    · constructor <;> omega
    · exact ⟨(xs k).le_toInt, (xs k).toInt_lt⟩
  · split
    · have h : ∀ k, k < 8 → aIn (rmA.getD k 0) := by decide
      by_cases hk : k < 8
      · exact h k hk
      · have : rmA.length = 8 := rfl
        rw [List.getD_eq_getElem?_getD, List.getElem?_eq_none (by omega)]
        exact ⟨by decide, by decide⟩
    · exact ⟨by decide, by decide⟩
theorem whole_start {e : Env} {below : List Frame} (hP : PURE) (l : Launch) (hl : l.stackTraces = false) (hnm : meth.name = "law") (hL : L ≤ 3072) (C0 : lw_At p s m meth c b L xs) : W p l e room_1 s m #[Value.ref b] below meth c s.heap [] 0 0 (lw_Z below #[Value.ref b] s) (entryFrame m ([Value.ref b] : List Value).toArray 7) := by
  obtain ⟨n, σ1, hrun, hc, hs⟩ := hP L xs hL
  obtain ⟨D, cA, ad0, e0, hC⟩ := st_cx C0 hL
  have hd0 : (mY 334).name = meth.name := by rw [hnm]; rfl
  have G := snd_ok hl n 17 334 0 [] (aent 7 [(2, 1000000)]) [] (M0a xs L, 0, 0, 0) (some (0, 1)) σ1 hrun trivial p e room_1 s m #[Value.ref b] below meth c (lw_Z below #[Value.ref b] s) D cA (stA s) ad0 (M0a xs L) 0 0 0 hC hd0 (by decide) (by decide) (by show σ1.2.2.1 ≤ 0 + 601024; omega) (by show σ1.2.2.2 ≤ 0 + 7293034; omega)
    (fun pc1 o1 L1 S1 σf hfin hS0 hth hdg hok1 => by
      rcases hfin with ⟨hk3, hart, rfl⟩ | ⟨-, h7, -⟩
      · intro ad H locs ls cells slots hI
        obtain ⟨⟨qP, qD, qS, qM⟩, qL, qSt, qad, qtop, qro, qce, qse, qbig⟩ := id hI
        obtain ⟨ins, ln, ra, rb, rc⟩ := o1
        have hlk : ∃ h, ins = Instr.ireturn ∧ S1 = [(0, 1)] ∧ ln = 1 ∧ h = True := by
          delta art at hart
          cases ins <;> dsimp only at hart <;> first | (cases hart; done) | skip
          all_goals (repeat' split at hart) <;> first | (cases hart; done) | skip
          cases hart
          exact ⟨True, rfl, rfl, hok1.1, rfl⟩
        obtain ⟨-, rfl, rfl, rfl, -⟩ := hlk
        refine va_forget (fun q hq => qS.2.2 q hq) ?_
        refine W.widen (k := 601024) (n := 7293034) (by omega) (by omega) ?_
        exact lw_ret C0.1 C0.2.1 C0.2.2.1 C0.2.2.2.2.2.2.2.2.1 hdg
      · cases h7)
  have haa : ∀ v ∈ [((2 : Nat), (1000000 : Int))], okV 0 v := fun v hv => by
    cases List.mem_singleton.mp hv
    exact Or.inr (Or.inr ⟨rfl, Or.inr (Or.inr (by decide))⟩)
  have hfl : (afl [((2 : Nat), (1000000 : Int))]).length ≤ 7 := by show 1 ≤ 7; decide
  have eV : ([((2 : Nat), (1000000 : Int))]).map (cV ad0) = [Value.ref b] := by
    show [cV ad0 (2, 1000000)] = _
    rw [cV_2 ad0 (by decide)]
    show [Value.ref (ad0 1000000)] = _
    rw [e0]
  have hE := IL_entry (ad := ad0) haa hfl
  rw [eV] at hE
  rw [lg_entry_eq]
  have hM : okM (M0a xs L, 0, 0, 0) := by
    intro n k hn
    have hn : 1000000 ≤ n := hn.resolve_left (Nat.not_lt_zero _)
    have hin := M0a_in (xs := xs) hL n k
    have ha : (ash n).1 = 100 ∨ (ash n).1 = 500 := by
      unfold ash
      rw [if_neg (by omega), if_neg (by omega)]
      split
      · exact Or.inl rfl
      · split
        · exact Or.inl rfl
        · exact Or.inr rfl
    unfold rng
    rcases ha with h | h <;> rw [h] <;> (rw [if_neg (by decide), if_neg (by decide), if_neg (by decide), if_neg (by decide)]; exact hin)
  have hP0 : va_P D vwCl (cW cA ad0 (M0a xs L, 0, 0, 0)) s.heap := fun k q hq => absurd hq (by simp [cW])
  have hD0 : va_D (stA s) (cW cA ad0 (M0a xs L, 0, 0, 0)) := ⟨fun i j q q' hi => absurd hi (by simp [cW]), fun k q hq => absurd hq (by simp [cW])⟩
  exact G ad0 s.heap [] _ 0 0 ⟨⟨hP0, hD0, va_S.rf, hM⟩, hE, (fun v hv => absurd hv List.not_mem_nil), fun _ _ => rfl, Nat.le_refl _, fun _ _ _ => rfl, rfl, rfl, Nat.zero_le _⟩
end Start

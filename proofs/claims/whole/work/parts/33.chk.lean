/-! ===== the stretches hold what they must: entries of the pool by numbers, checked ===== -/
theorem cT_of {ci : Nat} {C : String} {T : u_T} {N : Nat} (h : vwCl[ci]? = some (C, T, N)) : (∀ k, cT ci k = T k) ∧ cN ci = C := by
  constructor
  · intro k; unfold cT; rw [List.getD_eq_getElem?_getD, h]; rfl
  · unfold cN; rw [List.getD_eq_getElem?_getD, h]; rfl
/-- the words by numbers -/
def wFl (e : Nat × Nat × Nat × Nat) : Cond := .fieldLink (oN e.1) e.2.1 (cT e.2.2.1 e.2.2.2).1 (cT e.2.2.1 e.2.2.2).2.1 (cT e.2.2.1 e.2.2.2).2.2.1
def wFn (e : Nat × Nat × Nat × Nat) : Cond := .fieldLinkNest (oN e.1) e.2.1 (cT e.2.2.1 e.2.2.2).1 (cT e.2.2.1 e.2.2.2).2.1 (cT e.2.2.1 e.2.2.2).2.2.1 (if e.1 = 13 ∨ e.1 = 12 then RX13 else RX11)
def yO (f : Nat) : MethodName := if f = 1000 then Lib.Math.min.name else if f = 1001 then Lib.Math.max.name else if f = 1002 then arraycopyName else if f = 1010 then yJ0_length_8abf5 else if f = 1011 then yJ0_charAt_5068e else if f = 1020 then Lib.objectInit else mY f
def wMl (e : Nat × Nat × Nat) : Cond := .methodLink (oN e.1) e.2.1 (yO e.2.2)
def wMn (e : Nat × Nat × Nat) : Cond := .methodLinkNest (oN e.1) e.2.1 (yO e.2.2) (if e.1 = 13 ∨ e.1 = 12 then RX13 else RX11)
def wCl (e : Nat × Nat × Nat) : Cond := .classLink (oN e.1) e.2.1 (cN e.2.2)
def wKi (e : Nat × Nat × Nat) : Cond := .constant (oN e.1) e.2.1 (Int32.ofInt (e.2.2 : Int))
def wKl (e : Nat × Nat × Nat × Nat) : Cond := .constantLong (oN e.1) e.2.1 (Int64.ofInt (if e.2.2.2 = 1 then -(e.2.2.1 : Int) else (e.2.2.1 : Int)))
def wCo (j : Nat) : Cond := .code (mY j) (mC j) (mL j) (mR j)
def wIm (j : Nat) : Cond := .instanceMethod (mY j)
def wSt (j : Nat) : Cond := .static (mY j)
def wSe (j : Nat) : Cond := .selects (mY j).cls (mY j) (mY j)
theorem sub_gt {α : Type} {ws : List α} {w : α → Cond} (h1 : (ws.map w).isSublist lw_tbl = true) (h2 : (ws.map w).all goodWord = true) : ∀ e ∈ ws, w e ∈ gt := fun e he => List.mem_filter.mpr ⟨(List.isSublist_iff_sublist.mp h1).subset (List.mem_map.mpr ⟨e, he, rfl⟩), List.all_eq_true.mp h2 _ (List.mem_map.mpr ⟨e, he, rfl⟩)⟩
theorem sub_gN {α : Type} {ws : List α} {w : α → Cond} (h1 : (ws.map w).isSublist lw_tbl = true) (h2 : (ws.map w).all isNest = true) : ∀ e ∈ ws, w e ∈ gN := fun e he => List.mem_filter.mpr ⟨(List.isSublist_iff_sublist.mp h1).subset (List.mem_map.mpr ⟨e, he, rfl⟩), List.all_eq_true.mp h2 _ (List.mem_map.mpr ⟨e, he, rfl⟩)⟩
set_option maxRecDepth 100000 in
theorem PF_ok : ∀ e ∈ PF, wFl e ∈ gt := sub_gt (by decide +kernel) (by decide +kernel)
set_option maxRecDepth 100000 in
theorem PN_ok : ∀ e ∈ PN, wFn e ∈ gN := sub_gN (by decide +kernel) (by decide +kernel)
set_option maxRecDepth 100000 in
theorem PM_ok : ∀ e ∈ PM, wMl e ∈ gt := sub_gt (by decide +kernel) (by decide +kernel)
set_option maxRecDepth 100000 in
theorem PMN_ok : ∀ e ∈ PMN, wMn e ∈ gN := sub_gN (by decide +kernel) (by decide +kernel)
set_option maxRecDepth 100000 in
theorem PC_ok : ∀ e ∈ PC, wCl e ∈ gt := sub_gt (by decide +kernel) (by decide +kernel)
set_option maxRecDepth 100000 in
theorem PK_ok : ∀ e ∈ PK, wKi e ∈ gt := sub_gt (by decide +kernel) (by decide +kernel)
set_option maxRecDepth 100000 in
theorem PL_ok : ∀ e ∈ PL, wKl e ∈ gt := sub_gt (by decide +kernel) (by decide +kernel)
set_option maxRecDepth 100000 in
theorem QI_ok : ∀ e ∈ QI, wIm e ∈ gt := sub_gt (by decide +kernel) (by decide +kernel)
set_option maxRecDepth 100000 in
theorem QS_ok : ∀ e ∈ QS, wSt e ∈ gt := sub_gt (by decide +kernel) (by decide +kernel)
set_option maxRecDepth 100000 in
theorem QE_ok : ∀ e ∈ QE, wSe e ∈ gt := sub_gt (by decide +kernel) (by decide +kernel)
def wIn (k : Nat) : Cond := .initialized (oN k)
set_option maxRecDepth 100000 in
theorem QN_ok : ∀ e ∈ QN, wIn e ∈ gt := sub_gt (by decide +kernel) (by decide +kernel)
def wIt (k : Nat) : Cond := .instantiable (cN k) (afn k)
set_option maxRecDepth 100000 in
theorem QT_ok : ∀ e ∈ QT, wIt e ∈ gt := sub_gt (by decide +kernel) (by decide +kernel)
theorem ga_int : Cond.arrayClass .int ∈ gt := gt_at 279 (by decide +kernel) (by decide +kernel)
theorem ga_byte : Cond.arrayClass .byte ∈ gt := gt_at 278 (by decide +kernel) (by decide +kernel)
theorem ga_long : Cond.arrayClass .long ∈ gt := gt_at 312 (by decide +kernel) (by decide +kernel)
theorem gLed : Cond.methodLink (oN 14) 242 yL_led ∈ gt := gt_at 1392 (by decide +kernel) (by decide +kernel)
theorem gROOM : Cond.fieldLinkNest (oN 7) 83 RX11 "ROOM" "[I" RX11 ∈ gN := List.mem_filter.mpr ⟨List.mem_of_getElem? (i := 686) (by decide +kernel), by decide +kernel⟩
theorem mY_own : ∀ j, j < 335 → (mY j).cls = oN (mK j) := by decide +kernel
theorem mL_le : ∀ j, j < 335 → mL j ≤ 17 := by decide +kernel
theorem mY_pl : ∀ j, j < 335 → plainName (mY j).cls = true ∧ (mY j).cls ≠ "java/lang/invoke/MethodHandle" ∧ (mY j).cls ≠ "java/lang/invoke/VarHandle" := by decide +kernel
def cCk (j : Nat) : Bool := match lw_tbl[mQ j]? with
  | some (.code y _ n r) => decide (y = mY j) && decide (n = mL j) && decide (r = mR j)
  | _ => false
set_option maxRecDepth 100000 in
theorem cCk_all : ∀ j, j < 334 → cCk j = true := by decide +kernel
theorem QC_ok (j : Nat) (hj : j < 334) : Cond.code (mY j) (mC j) (mL j) (mR j) ∈ gt := by
  have h := cCk_all j hj
  unfold cCk at h
  split at h
  · rename_i y c n r e
    simp only [Bool.and_eq_true, decide_eq_true_eq] at h
    obtain ⟨⟨h1, h2⟩, h3⟩ := h
    have hc : mC j = c := by
      unfold mC
      rw [if_neg (by omega), e]
      rfl
    rw [hc, ← h1, ← h2, ← h3]
    exact List.mem_filter.mpr ⟨List.mem_of_getElem? e, rfl⟩
  · cases h
theorem QN_all : ∀ k, k < 16 → k ∈ QN := by decide +kernel
theorem mK_lt : ∀ j, j < 335 → mK j < 16 := by decide +kernel
theorem okMt_all : ∀ j, j < 334 → okMt j := by
  intro j hj
  refine ⟨QC_ok j hj, ?_, (mY_pl j (by omega)).1, (mY_pl j (by omega)).2, mL_le j (by omega)⟩
  rw [mY_own j (by omega)]
  exact QN_ok (mK j) (QN_all _ (mK_lt j (by omega)))
theorem mP_ok : ∀ j, j < 335 → (parseMethodDescriptor (mY j).desc).map (fun d => d.parameters.length) = some (mP j) := by decide +kernel


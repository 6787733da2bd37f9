/-! ===== what an instruction's entries of the pool must be ===== -/
/-- a field's entry of the pool -/
def okFd (own : String) (i ci k : Nat) : Prop := ci < 14 ∧ k < afn ci ∧ ∀ (C : String) (T : u_T) (N : Nat), vwCl[ci]? = some (C, T, N) → (Cond.fieldLink own i (T k).1 (T k).2.1 (T k).2.2.1 ∈ gt ∨ ∃ h, Cond.fieldLinkNest own i (T k).1 (T k).2.1 (T k).2.2.1 h ∈ gN)
def okPf (j i ci k : Nat) : Prop := ci < 14 ∧ k < afn ci ∧ ∀ (C : String) (T : u_T) (N : Nat), vwCl[ci]? = some (C, T, N) → ((Cond.fieldLink (mY j).cls i (T k).1 (T k).2.1 (T k).2.2.1 ∈ gt ∧ ((T k).2.2.2 = false ∨ ((T k).2.2.2 = true ∧ (mY j).name = "<init>" ∧ (T k).1 = (mY j).cls))) ∨ ∃ h, Cond.fieldLinkNest (mY j).cls i (T k).1 (T k).2.1 (T k).2.2.1 h ∈ gN ∧ (T k).2.2.2 = false)
/-- a method that may be called -/
def okMt (j : Nat) : Prop := Cond.code (mY j) (mC j) (mL j) (mR j) ∈ gt ∧ Cond.initialized (mY j).cls ∈ gt ∧ plainName (mY j).cls = true ∧ ((mY j).cls ≠ "java/lang/invoke/MethodHandle" ∧ (mY j).cls ≠ "java/lang/invoke/VarHandle") ∧ mL j ≤ 17
def okLk (own : String) (i f n z : Nat) : Prop := okMt f ∧ (parseMethodDescriptor (mY f).desc).map (fun d => d.parameters.length) = some n ∧ ((z = 0 ∧ Cond.methodLink own i (mY f) ∈ gt) ∨ (z = 1 ∧ ∃ h, Cond.methodLinkNest own i (mY f) h ∈ gN))
def okO (j : Nat) (o : aO) : Prop := (match o with
  | (.tableswitch _ _ _ _, _) => True
  | (.lookupswitch _ ps, _) => (ps.toList.zip (ps.toList.drop 1)).all (fun (a, next) => a.1 < next.1) = true
  | (i, ln, _) => ln = aln i) ∧ match o with
  | (.getfield i, _, ci, k, _) => okFd (mY j).cls i ci k
  | (.putfield i, _, ci, k, _) => okPf j i ci k
  | (.getstatic i, _) => Cond.fieldLink (mY j).cls i RX11 "ROOM" "[I" ∈ gt ∨ ∃ h, Cond.fieldLinkNest (mY j).cls i RX11 "ROOM" "[I" h ∈ gN
  | (.ldc i, _, k, x, _) => if k = 0 then Cond.constant (mY j).cls i (Int32.ofInt (x : Int)) ∈ gt else ∃ tx, asO[x]? = some ((mY j).cls, i, tx)
  | (.ldc_w i, _, k, x, _) => if k = 0 then Cond.constant (mY j).cls i (Int32.ofInt (x : Int)) ∈ gt else ∃ tx, asO[x]? = some ((mY j).cls, i, tx)
  | (.ldc2_w i, _, x, z, _) => Cond.constantLong (mY j).cls i (Int64.ofInt (if z = 1 then -(x : Int) else (x : Int))) ∈ gt
  | (.new i, _, ci, _) => ∀ (C : String) (T : u_T) (N : Nat), vwCl[ci]? = some (C, T, N) → Cond.classLink (mY j).cls i C ∈ gt ∧ Cond.instantiable C N ∈ gt ∧ Cond.initialized C ∈ gt
  | (.newarray t, _, kind, _) => ((kind = 100 ∧ newarray.typeOf t = .int) ∨ (kind = 101 ∧ newarray.typeOf t = .byte) ∨ (kind = 102 ∧ newarray.typeOf t = .long)) ∧ Cond.arrayClass (newarray.typeOf t) ∈ gt
  | (.anewarray i, _) => Cond.classLink (mY j).cls i RX8 ∈ gt
  | (.invokestatic i, _, f, n, z) => if f = 1000 then Cond.methodLink (mY j).cls i Lib.Math.min.name ∈ gt else if f = 1001 then Cond.methodLink (mY j).cls i Lib.Math.max.name ∈ gt else if f = 1002 then Cond.methodLink (mY j).cls i arraycopyName ∈ gt else if f = 1030 then Cond.methodLink (mY j).cls i yL_led ∈ gt else okLk (mY j).cls i f n z ∧ Cond.static (mY f) ∈ gt
  | (.invokevirtual i, _, f, n, z) => if f = 1010 then Cond.methodLink (mY j).cls i yJ0_length_8abf5 ∈ gt else if f = 1011 then Cond.methodLink (mY j).cls i yJ0_charAt_5068e ∈ gt else okLk (mY j).cls i f n z ∧ Cond.instanceMethod (mY f) ∈ gt ∧ Cond.selects (mY f).cls (mY f) (mY f) ∈ gt ∧ mK f < 14 ∧ ∀ (C : String) (T : u_T) (N : Nat), vwCl[mK f]? = some (C, T, N) → C = (mY f).cls
  | (.invokespecial i, _, f, n, z) => if f = 1020 then Cond.methodLink (mY j).cls i Lib.objectInit ∈ gt else okLk (mY j).cls i f n z ∧ Cond.instanceMethod (mY f) ∈ gt ∧ (mY f).name = "<init>" ∧ mR f = none
  | (.ireturn, _, z, _) => (z = 0 ∧ mR j = some .int) ∨ (z = 1 ∧ mR j = some .boolean)
  | (.lreturn, _) => mR j = some .long
  | (.areturn, _) => ∃ q, mR j = some (.object q)
  | (.return_, _) => mR j = none
  | _ => True
def okJ (pc : Nat) (o : aO) : Prop := ∀ x : Int, (∃ off, o.1 = .goto off ∧ x = pc + off) ∨ (∃ cd off, o.1 = .if_icmp cd off ∧ x = pc + off) ∨ (∃ cd off, o.1 = .ifCond cd off ∧ x = pc + off) ∨ (∃ off, o.1 = .ifnull off ∧ x = pc + off) ∨ (∃ off, o.1 = .ifnonnull off ∧ x = pc + off) ∨ (∃ df lo hi offs, o.1 = .tableswitch df lo hi offs ∧ (x = pc + df ∨ ∃ off ∈ offs.toList, x = pc + off)) ∨ (∃ df ps a, o.1 = .lookupswitch df ps ∧ x = pc + Op.lookupswitch.offset ps.toList df a) → 0 ≤ x
/-- where a thing is thrown: in led alone, at one place -/
def okT (j pc : Nat) (o : aO) : Prop := akd o = 4 → j = 167 ∧ pc = 49
def okOps (j : Nat) : Nat → List aO → Prop
  | _, [] => True
  | pc, o :: ops => decode (mC j) pc = .ok (o.1, o.2.1) ∧ okO j o ∧ okJ pc o ∧ okT j pc o ∧ okOps j (pc + o.2.1) ops
/-- what holds of the sorts of objects -/
def okCl (ci : Nat) : Prop := ∃ (C : String) (T : u_T) (N : Nat) (ty0 : Nat → FieldType), vwCl[ci]? = some (C, T, N) ∧ N = afn ci ∧ (∀ w ∈ u_ws C T N, w ∈ gt) ∧ (∀ k, k < N → parseFieldDescriptor (T k).2.2.1 = some (ty0 k)) ∧ (∀ a, a < N → ∀ b, b < N → a ≠ b → (T a).2.1 ≠ (T b).2.1) ∧ ∀ k, k < N → tyOk (aft ci k) (ty0 k)

theorem u_gt0 : ∀ w ∈ u_ws RX0 TX0 4, w ∈ gt := by
  intro w hw
  have h : (u_ws RX0 TX0 4).all (fun w => decide (w ∈ lw_tbl) && goodWord w) = true := by decide +kernel
  have h1 := List.all_eq_true.mp h w hw
  simp only [Bool.and_eq_true, decide_eq_true_eq] at h1
  exact List.mem_filter.mpr h1
theorem okCl_0 : okCl 0 := by
  refine ⟨RX0, TX0, 4, tyX0, rfl, by decide +kernel, u_gt0, tyX0_ok, nmX0, fun k hk => ?_⟩
  match k, hk with
  | 0, _ => exact Or.inr (Or.inr ⟨by decide +kernel, Or.inl ⟨_, rfl⟩⟩)
  | 1, _ => exact Or.inr (Or.inr ⟨by decide +kernel, Or.inl ⟨_, rfl⟩⟩)
  | 2, _ => exact Or.inr (Or.inr ⟨by decide +kernel, Or.inl ⟨_, rfl⟩⟩)
  | 3, _ => exact Or.inl ⟨by decide +kernel, rfl⟩
  | k + 4, hk => exact absurd hk (by omega)
theorem u_gt1 : ∀ w ∈ u_ws RX1 TX1 6, w ∈ gt := by
  intro w hw
  have h : (u_ws RX1 TX1 6).all (fun w => decide (w ∈ lw_tbl) && goodWord w) = true := by decide +kernel
  have h1 := List.all_eq_true.mp h w hw
  simp only [Bool.and_eq_true, decide_eq_true_eq] at h1
  exact List.mem_filter.mpr h1
theorem okCl_1 : okCl 1 := by
  refine ⟨RX1, TX1, 6, tyX1, rfl, by decide +kernel, u_gt1, tyX1_ok, nmX1, fun k hk => ?_⟩
  match k, hk with
  | 0, _ => exact Or.inr (Or.inr ⟨by decide +kernel, Or.inl ⟨_, rfl⟩⟩)
  | 1, _ => exact Or.inr (Or.inr ⟨by decide +kernel, Or.inl ⟨_, rfl⟩⟩)
  | 2, _ => exact Or.inr (Or.inr ⟨by decide +kernel, Or.inl ⟨_, rfl⟩⟩)
  | 3, _ => exact Or.inr (Or.inr ⟨by decide +kernel, Or.inr ⟨_, rfl⟩⟩)
  | 4, _ => exact Or.inr (Or.inr ⟨by decide +kernel, Or.inr ⟨_, rfl⟩⟩)
  | 5, _ => exact Or.inr (Or.inr ⟨by decide +kernel, Or.inr ⟨_, rfl⟩⟩)
  | k + 6, hk => exact absurd hk (by omega)
theorem u_gt2 : ∀ w ∈ u_ws RX2 TX2 2, w ∈ gt := by
  intro w hw
  have h : (u_ws RX2 TX2 2).all (fun w => decide (w ∈ lw_tbl) && goodWord w) = true := by decide +kernel
  have h1 := List.all_eq_true.mp h w hw
  simp only [Bool.and_eq_true, decide_eq_true_eq] at h1
  exact List.mem_filter.mpr h1
theorem okCl_2 : okCl 2 := by
  refine ⟨RX2, TX2, 2, tyX2, rfl, by decide +kernel, u_gt2, tyX2_ok, nmX2, fun k hk => ?_⟩
  match k, hk with
  | 0, _ => exact Or.inr (Or.inr ⟨by decide +kernel, Or.inl ⟨_, rfl⟩⟩)
  | 1, _ => exact Or.inr (Or.inr ⟨by decide +kernel, Or.inl ⟨_, rfl⟩⟩)
  | k + 2, hk => exact absurd hk (by omega)
theorem u_gt3 : ∀ w ∈ u_ws RX3 TX3 5, w ∈ gt := by
  intro w hw
  have h : (u_ws RX3 TX3 5).all (fun w => decide (w ∈ lw_tbl) && goodWord w) = true := by decide +kernel
  have h1 := List.all_eq_true.mp h w hw
  simp only [Bool.and_eq_true, decide_eq_true_eq] at h1
  exact List.mem_filter.mpr h1
theorem okCl_3 : okCl 3 := by
  refine ⟨RX3, TX3, 5, tyX3, rfl, by decide +kernel, u_gt3, tyX3_ok, nmX3, fun k hk => ?_⟩
  match k, hk with
  | 0, _ => exact Or.inr (Or.inr ⟨by decide +kernel, Or.inl ⟨_, rfl⟩⟩)
  | 1, _ => exact Or.inr (Or.inr ⟨by decide +kernel, Or.inl ⟨_, rfl⟩⟩)
  | 2, _ => exact Or.inr (Or.inr ⟨by decide +kernel, Or.inr ⟨_, rfl⟩⟩)
  | 3, _ => exact Or.inr (Or.inr ⟨by decide +kernel, Or.inr ⟨_, rfl⟩⟩)
  | 4, _ => exact Or.inr (Or.inr ⟨by decide +kernel, Or.inr ⟨_, rfl⟩⟩)
  | k + 5, hk => exact absurd hk (by omega)
theorem u_gt4 : ∀ w ∈ u_ws RX4 TX4 5, w ∈ gt := by
  intro w hw
  have h : (u_ws RX4 TX4 5).all (fun w => decide (w ∈ lw_tbl) && goodWord w) = true := by decide +kernel
  have h1 := List.all_eq_true.mp h w hw
  simp only [Bool.and_eq_true, decide_eq_true_eq] at h1
  exact List.mem_filter.mpr h1
theorem okCl_4 : okCl 4 := by
  refine ⟨RX4, TX4, 5, tyX4, rfl, by decide +kernel, u_gt4, tyX4_ok, nmX4, fun k hk => ?_⟩
  match k, hk with
  | 0, _ => exact Or.inr (Or.inr ⟨by decide +kernel, Or.inr ⟨_, rfl⟩⟩)
  | 1, _ => exact Or.inr (Or.inr ⟨by decide +kernel, Or.inr ⟨_, rfl⟩⟩)
  | 2, _ => exact Or.inl ⟨by decide +kernel, rfl⟩
  | 3, _ => exact Or.inl ⟨by decide +kernel, rfl⟩
  | 4, _ => exact Or.inl ⟨by decide +kernel, rfl⟩
  | k + 5, hk => exact absurd hk (by omega)
theorem u_gt5 : ∀ w ∈ u_ws RX5 TX5 4, w ∈ gt := by
  intro w hw
  have h : (u_ws RX5 TX5 4).all (fun w => decide (w ∈ lw_tbl) && goodWord w) = true := by decide +kernel
  have h1 := List.all_eq_true.mp h w hw
  simp only [Bool.and_eq_true, decide_eq_true_eq] at h1
  exact List.mem_filter.mpr h1
theorem okCl_5 : okCl 5 := by
  refine ⟨RX5, TX5, 4, tyX5, rfl, by decide +kernel, u_gt5, tyX5_ok, nmX5, fun k hk => ?_⟩
  match k, hk with
  | 0, _ => exact Or.inr (Or.inr ⟨by decide +kernel, Or.inl ⟨_, rfl⟩⟩)
  | 1, _ => exact Or.inr (Or.inr ⟨by decide +kernel, Or.inr ⟨_, rfl⟩⟩)
  | 2, _ => exact Or.inr (Or.inr ⟨by decide +kernel, Or.inr ⟨_, rfl⟩⟩)
  | 3, _ => exact Or.inl ⟨by decide +kernel, rfl⟩
  | k + 4, hk => exact absurd hk (by omega)
theorem u_gt6 : ∀ w ∈ u_ws RX6 TX6 2, w ∈ gt := by
  intro w hw
  have h : (u_ws RX6 TX6 2).all (fun w => decide (w ∈ lw_tbl) && goodWord w) = true := by decide +kernel
  have h1 := List.all_eq_true.mp h w hw
  simp only [Bool.and_eq_true, decide_eq_true_eq] at h1
  exact List.mem_filter.mpr h1
theorem okCl_6 : okCl 6 := by
  refine ⟨RX6, TX6, 2, tyX6, rfl, by decide +kernel, u_gt6, tyX6_ok, nmX6, fun k hk => ?_⟩
  match k, hk with
  | 0, _ => exact Or.inr (Or.inr ⟨by decide +kernel, Or.inl ⟨_, rfl⟩⟩)
  | 1, _ => exact Or.inr (Or.inr ⟨by decide +kernel, Or.inl ⟨_, rfl⟩⟩)
  | k + 2, hk => exact absurd hk (by omega)
theorem u_gt7 : ∀ w ∈ u_ws RX7 TX7 8, w ∈ gt := by
  intro w hw
  have h : (u_ws RX7 TX7 8).all (fun w => decide (w ∈ lw_tbl) && goodWord w) = true := by decide +kernel
  have h1 := List.all_eq_true.mp h w hw
  simp only [Bool.and_eq_true, decide_eq_true_eq] at h1
  exact List.mem_filter.mpr h1
theorem okCl_7 : okCl 7 := by
  refine ⟨RX7, TX7, 8, tyX7, rfl, by decide +kernel, u_gt7, tyX7_ok, nmX7, fun k hk => ?_⟩
  match k, hk with
  | 0, _ => exact Or.inr (Or.inr ⟨by decide +kernel, Or.inl ⟨_, rfl⟩⟩)
  | 1, _ => exact Or.inl ⟨by decide +kernel, rfl⟩
  | 2, _ => exact Or.inl ⟨by decide +kernel, rfl⟩
  | 3, _ => exact Or.inr (Or.inr ⟨by decide +kernel, Or.inl ⟨_, rfl⟩⟩)
  | 4, _ => exact Or.inr (Or.inr ⟨by decide +kernel, Or.inr ⟨_, rfl⟩⟩)
  | 5, _ => exact Or.inr (Or.inr ⟨by decide +kernel, Or.inr ⟨_, rfl⟩⟩)
  | 6, _ => exact Or.inr (Or.inr ⟨by decide +kernel, Or.inr ⟨_, rfl⟩⟩)
  | 7, _ => exact Or.inl ⟨by decide +kernel, rfl⟩
  | k + 8, hk => exact absurd hk (by omega)
theorem u_gt8 : ∀ w ∈ u_ws RX8 TX8 5, w ∈ gt := by
  intro w hw
  have h : (u_ws RX8 TX8 5).all (fun w => decide (w ∈ lw_tbl) && goodWord w) = true := by decide +kernel
  have h1 := List.all_eq_true.mp h w hw
  simp only [Bool.and_eq_true, decide_eq_true_eq] at h1
  exact List.mem_filter.mpr h1
theorem okCl_8 : okCl 8 := by
  refine ⟨RX8, TX8, 5, tyX8, rfl, by decide +kernel, u_gt8, tyX8_ok, nmX8, fun k hk => ?_⟩
  match k, hk with
  | 0, _ => exact Or.inr (Or.inr ⟨by decide +kernel, Or.inr ⟨_, rfl⟩⟩)
  | 1, _ => exact Or.inr (Or.inr ⟨by decide +kernel, Or.inr ⟨_, rfl⟩⟩)
  | 2, _ => exact Or.inr (Or.inr ⟨by decide +kernel, Or.inr ⟨_, rfl⟩⟩)
  | 3, _ => exact Or.inl ⟨by decide +kernel, rfl⟩
  | 4, _ => exact Or.inl ⟨by decide +kernel, rfl⟩
  | k + 5, hk => exact absurd hk (by omega)
theorem u_gt9 : ∀ w ∈ u_ws RX9 TX9 5, w ∈ gt := by
  intro w hw
  have h : (u_ws RX9 TX9 5).all (fun w => decide (w ∈ lw_tbl) && goodWord w) = true := by decide +kernel
  have h1 := List.all_eq_true.mp h w hw
  simp only [Bool.and_eq_true, decide_eq_true_eq] at h1
  exact List.mem_filter.mpr h1
theorem okCl_9 : okCl 9 := by
  refine ⟨RX9, TX9, 5, tyX9, rfl, by decide +kernel, u_gt9, tyX9_ok, nmX9, fun k hk => ?_⟩
  match k, hk with
  | 0, _ => exact Or.inr (Or.inr ⟨by decide +kernel, Or.inr ⟨_, rfl⟩⟩)
  | 1, _ => exact Or.inl ⟨by decide +kernel, rfl⟩
  | 2, _ => exact Or.inl ⟨by decide +kernel, rfl⟩
  | 3, _ => exact Or.inl ⟨by decide +kernel, rfl⟩
  | 4, _ => exact Or.inl ⟨by decide +kernel, rfl⟩
  | k + 5, hk => exact absurd hk (by omega)
theorem u_gt10 : ∀ w ∈ u_ws RX10 TX10 19, w ∈ gt := by
  intro w hw
  have h : (u_ws RX10 TX10 19).all (fun w => decide (w ∈ lw_tbl) && goodWord w) = true := by decide +kernel
  have h1 := List.all_eq_true.mp h w hw
  simp only [Bool.and_eq_true, decide_eq_true_eq] at h1
  exact List.mem_filter.mpr h1
theorem okCl_10 : okCl 10 := by
  refine ⟨RX10, TX10, 19, tyX10, rfl, by decide +kernel, u_gt10, tyX10_ok, nmX10, fun k hk => ?_⟩
  match k, hk with
  | 0, _ => exact Or.inl ⟨by decide +kernel, rfl⟩
  | 1, _ => exact Or.inl ⟨by decide +kernel, rfl⟩
  | 2, _ => exact Or.inl ⟨by decide +kernel, rfl⟩
  | 3, _ => exact Or.inr (Or.inr ⟨by decide +kernel, Or.inr ⟨_, rfl⟩⟩)
  | 4, _ => exact Or.inl ⟨by decide +kernel, rfl⟩
  | 5, _ => exact Or.inr (Or.inr ⟨by decide +kernel, Or.inr ⟨_, rfl⟩⟩)
  | 6, _ => exact Or.inr (Or.inr ⟨by decide +kernel, Or.inr ⟨_, rfl⟩⟩)
  | 7, _ => exact Or.inr (Or.inr ⟨by decide +kernel, Or.inr ⟨_, rfl⟩⟩)
  | 8, _ => exact Or.inr (Or.inr ⟨by decide +kernel, Or.inr ⟨_, rfl⟩⟩)
  | 9, _ => exact Or.inl ⟨by decide +kernel, rfl⟩
  | 10, _ => exact Or.inr (Or.inr ⟨by decide +kernel, Or.inr ⟨_, rfl⟩⟩)
  | 11, _ => exact Or.inr (Or.inr ⟨by decide +kernel, Or.inr ⟨_, rfl⟩⟩)
  | 12, _ => exact Or.inr (Or.inr ⟨by decide +kernel, Or.inr ⟨_, rfl⟩⟩)
  | 13, _ => exact Or.inr (Or.inr ⟨by decide +kernel, Or.inr ⟨_, rfl⟩⟩)
  | 14, _ => exact Or.inr (Or.inr ⟨by decide +kernel, Or.inr ⟨_, rfl⟩⟩)
  | 15, _ => exact Or.inr (Or.inr ⟨by decide +kernel, Or.inr ⟨_, rfl⟩⟩)
  | 16, _ => exact Or.inr (Or.inr ⟨by decide +kernel, Or.inr ⟨_, rfl⟩⟩)
  | 17, _ => exact Or.inr (Or.inr ⟨by decide +kernel, Or.inr ⟨_, rfl⟩⟩)
  | 18, _ => exact Or.inl ⟨by decide +kernel, rfl⟩
  | k + 19, hk => exact absurd hk (by omega)
theorem u_gt11 : ∀ w ∈ u_ws RX11 TX11 15, w ∈ gt := by
  intro w hw
  have h : (u_ws RX11 TX11 15).all (fun w => decide (w ∈ lw_tbl) && goodWord w) = true := by decide +kernel
  have h1 := List.all_eq_true.mp h w hw
  simp only [Bool.and_eq_true, decide_eq_true_eq] at h1
  exact List.mem_filter.mpr h1
theorem okCl_11 : okCl 11 := by
  refine ⟨RX11, TX11, 15, tyX11, rfl, by decide +kernel, u_gt11, tyX11_ok, nmX11, fun k hk => ?_⟩
  match k, hk with
  | 0, _ => exact Or.inr (Or.inr ⟨by decide +kernel, Or.inr ⟨_, rfl⟩⟩)
  | 1, _ => exact Or.inl ⟨by decide +kernel, rfl⟩
  | 2, _ => exact Or.inr (Or.inr ⟨by decide +kernel, Or.inl ⟨_, rfl⟩⟩)
  | 3, _ => exact Or.inr (Or.inr ⟨by decide +kernel, Or.inl ⟨_, rfl⟩⟩)
  | 4, _ => exact Or.inr (Or.inr ⟨by decide +kernel, Or.inl ⟨_, rfl⟩⟩)
  | 5, _ => exact Or.inr (Or.inr ⟨by decide +kernel, Or.inl ⟨_, rfl⟩⟩)
  | 6, _ => exact Or.inr (Or.inr ⟨by decide +kernel, Or.inl ⟨_, rfl⟩⟩)
  | 7, _ => exact Or.inr (Or.inr ⟨by decide +kernel, Or.inl ⟨_, rfl⟩⟩)
  | 8, _ => exact Or.inr (Or.inr ⟨by decide +kernel, Or.inl ⟨_, rfl⟩⟩)
  | 9, _ => exact Or.inr (Or.inr ⟨by decide +kernel, Or.inl ⟨_, rfl⟩⟩)
  | 10, _ => exact Or.inr (Or.inr ⟨by decide +kernel, Or.inl ⟨_, rfl⟩⟩)
  | 11, _ => exact Or.inr (Or.inr ⟨by decide +kernel, Or.inl ⟨_, rfl⟩⟩)
  | 12, _ => exact Or.inr (Or.inr ⟨by decide +kernel, Or.inl ⟨_, rfl⟩⟩)
  | 13, _ => exact Or.inr (Or.inr ⟨by decide +kernel, Or.inl ⟨_, rfl⟩⟩)
  | 14, _ => exact Or.inl ⟨by decide +kernel, rfl⟩
  | k + 15, hk => exact absurd hk (by omega)
theorem u_gt12 : ∀ w ∈ u_ws RX12 TX12 28, w ∈ gt := by
  intro w hw
  have h : (u_ws RX12 TX12 28).all (fun w => decide (w ∈ lw_tbl) && goodWord w) = true := by decide +kernel
  have h1 := List.all_eq_true.mp h w hw
  simp only [Bool.and_eq_true, decide_eq_true_eq] at h1
  exact List.mem_filter.mpr h1
theorem okCl_12 : okCl 12 := by
  refine ⟨RX12, TX12, 28, tyX12, rfl, by decide +kernel, u_gt12, tyX12_ok, nmX12, fun k hk => ?_⟩
  match k, hk with
  | 0, _ => exact Or.inl ⟨by decide +kernel, rfl⟩
  | 1, _ => exact Or.inl ⟨by decide +kernel, rfl⟩
  | 2, _ => exact Or.inl ⟨by decide +kernel, rfl⟩
  | 3, _ => exact Or.inl ⟨by decide +kernel, rfl⟩
  | 4, _ => exact Or.inl ⟨by decide +kernel, rfl⟩
  | 5, _ => exact Or.inl ⟨by decide +kernel, rfl⟩
  | 6, _ => exact Or.inl ⟨by decide +kernel, rfl⟩
  | 7, _ => exact Or.inl ⟨by decide +kernel, rfl⟩
  | 8, _ => exact Or.inl ⟨by decide +kernel, rfl⟩
  | 9, _ => exact Or.inl ⟨by decide +kernel, rfl⟩
  | 10, _ => exact Or.inl ⟨by decide +kernel, rfl⟩
  | 11, _ => exact Or.inl ⟨by decide +kernel, rfl⟩
  | 12, _ => exact Or.inl ⟨by decide +kernel, rfl⟩
  | 13, _ => exact Or.inl ⟨by decide +kernel, rfl⟩
  | 14, _ => exact Or.inr (Or.inr ⟨by decide +kernel, Or.inr ⟨_, rfl⟩⟩)
  | 15, _ => exact Or.inr (Or.inr ⟨by decide +kernel, Or.inr ⟨_, rfl⟩⟩)
  | 16, _ => exact Or.inr (Or.inr ⟨by decide +kernel, Or.inr ⟨_, rfl⟩⟩)
  | 17, _ => exact Or.inr (Or.inr ⟨by decide +kernel, Or.inr ⟨_, rfl⟩⟩)
  | 18, _ => exact Or.inr (Or.inr ⟨by decide +kernel, Or.inr ⟨_, rfl⟩⟩)
  | 19, _ => exact Or.inr (Or.inr ⟨by decide +kernel, Or.inr ⟨_, rfl⟩⟩)
  | 20, _ => exact Or.inr (Or.inr ⟨by decide +kernel, Or.inr ⟨_, rfl⟩⟩)
  | 21, _ => exact Or.inr (Or.inr ⟨by decide +kernel, Or.inr ⟨_, rfl⟩⟩)
  | 22, _ => exact Or.inr (Or.inr ⟨by decide +kernel, Or.inr ⟨_, rfl⟩⟩)
  | 23, _ => exact Or.inr (Or.inr ⟨by decide +kernel, Or.inr ⟨_, rfl⟩⟩)
  | 24, _ => exact Or.inr (Or.inr ⟨by decide +kernel, Or.inr ⟨_, rfl⟩⟩)
  | 25, _ => exact Or.inr (Or.inr ⟨by decide +kernel, Or.inr ⟨_, rfl⟩⟩)
  | 26, _ => exact Or.inr (Or.inr ⟨by decide +kernel, Or.inr ⟨_, rfl⟩⟩)
  | 27, _ => exact Or.inr (Or.inr ⟨by decide +kernel, Or.inr ⟨_, rfl⟩⟩)
  | k + 28, hk => exact absurd hk (by omega)
theorem u_gt13 : ∀ w ∈ u_ws RX13 TX13 38, w ∈ gt := by
  intro w hw
  have h : (u_ws RX13 TX13 38).all (fun w => decide (w ∈ lw_tbl) && goodWord w) = true := by decide +kernel
  have h1 := List.all_eq_true.mp h w hw
  simp only [Bool.and_eq_true, decide_eq_true_eq] at h1
  exact List.mem_filter.mpr h1
theorem okCl_13 : okCl 13 := by
  refine ⟨RX13, TX13, 38, tyX13, rfl, by decide +kernel, u_gt13, tyX13_ok, nmX13, fun k hk => ?_⟩
  match k, hk with
  | 0, _ => exact Or.inl ⟨by decide +kernel, rfl⟩
  | 1, _ => exact Or.inl ⟨by decide +kernel, rfl⟩
  | 2, _ => exact Or.inl ⟨by decide +kernel, rfl⟩
  | 3, _ => exact Or.inr (Or.inr ⟨by decide +kernel, Or.inl ⟨_, rfl⟩⟩)
  | 4, _ => exact Or.inr (Or.inr ⟨by decide +kernel, Or.inl ⟨_, rfl⟩⟩)
  | 5, _ => exact Or.inr (Or.inr ⟨by decide +kernel, Or.inr ⟨_, rfl⟩⟩)
  | 6, _ => exact Or.inl ⟨by decide +kernel, rfl⟩
  | 7, _ => exact Or.inl ⟨by decide +kernel, rfl⟩
  | 8, _ => exact Or.inl ⟨by decide +kernel, rfl⟩
  | 9, _ => exact Or.inl ⟨by decide +kernel, rfl⟩
  | 10, _ => exact Or.inl ⟨by decide +kernel, rfl⟩
  | 11, _ => exact Or.inl ⟨by decide +kernel, rfl⟩
  | 12, _ => exact Or.inl ⟨by decide +kernel, rfl⟩
  | 13, _ => exact Or.inl ⟨by decide +kernel, rfl⟩
  | 14, _ => exact Or.inr (Or.inl ⟨by decide +kernel, rfl⟩)
  | 15, _ => exact Or.inl ⟨by decide +kernel, rfl⟩
  | 16, _ => exact Or.inr (Or.inr ⟨by decide +kernel, Or.inr ⟨_, rfl⟩⟩)
  | 17, _ => exact Or.inr (Or.inr ⟨by decide +kernel, Or.inr ⟨_, rfl⟩⟩)
  | 18, _ => exact Or.inr (Or.inr ⟨by decide +kernel, Or.inr ⟨_, rfl⟩⟩)
  | 19, _ => exact Or.inr (Or.inr ⟨by decide +kernel, Or.inr ⟨_, rfl⟩⟩)
  | 20, _ => exact Or.inl ⟨by decide +kernel, rfl⟩
  | 21, _ => exact Or.inl ⟨by decide +kernel, rfl⟩
  | 22, _ => exact Or.inr (Or.inr ⟨by decide +kernel, Or.inr ⟨_, rfl⟩⟩)
  | 23, _ => exact Or.inr (Or.inr ⟨by decide +kernel, Or.inr ⟨_, rfl⟩⟩)
  | 24, _ => exact Or.inr (Or.inr ⟨by decide +kernel, Or.inr ⟨_, rfl⟩⟩)
  | 25, _ => exact Or.inl ⟨by decide +kernel, rfl⟩
  | 26, _ => exact Or.inl ⟨by decide +kernel, rfl⟩
  | 27, _ => exact Or.inr (Or.inr ⟨by decide +kernel, Or.inr ⟨_, rfl⟩⟩)
  | 28, _ => exact Or.inr (Or.inr ⟨by decide +kernel, Or.inr ⟨_, rfl⟩⟩)
  | 29, _ => exact Or.inr (Or.inr ⟨by decide +kernel, Or.inr ⟨_, rfl⟩⟩)
  | 30, _ => exact Or.inr (Or.inr ⟨by decide +kernel, Or.inr ⟨_, rfl⟩⟩)
  | 31, _ => exact Or.inl ⟨by decide +kernel, rfl⟩
  | 32, _ => exact Or.inl ⟨by decide +kernel, rfl⟩
  | 33, _ => exact Or.inl ⟨by decide +kernel, rfl⟩
  | 34, _ => exact Or.inr (Or.inr ⟨by decide +kernel, Or.inr ⟨_, rfl⟩⟩)
  | 35, _ => exact Or.inr (Or.inr ⟨by decide +kernel, Or.inr ⟨_, rfl⟩⟩)
  | 36, _ => exact Or.inr (Or.inl ⟨by decide +kernel, rfl⟩)
  | 37, _ => exact Or.inl ⟨by decide +kernel, rfl⟩
  | k + 38, hk => exact absurd hk (by omega)
theorem okCl_all : ∀ ci, ci < 14 → okCl ci := by
  intro ci hci
  match ci, hci with
  | 0, _ => exact okCl_0
  | 1, _ => exact okCl_1
  | 2, _ => exact okCl_2
  | 3, _ => exact okCl_3
  | 4, _ => exact okCl_4
  | 5, _ => exact okCl_5
  | 6, _ => exact okCl_6
  | 7, _ => exact okCl_7
  | 8, _ => exact okCl_8
  | 9, _ => exact okCl_9
  | 10, _ => exact okCl_10
  | 11, _ => exact okCl_11
  | 12, _ => exact okCl_12
  | 13, _ => exact okCl_13
  | k + 14, h => exact absurd h (by omega)
theorem gm_min_s : Cond.static Lib.Math.min.name ∈ gt := gt_at 654 (by decide +kernel) (by decide +kernel)
theorem gm_max_s : Cond.static Lib.Math.max.name ∈ gt := gt_at 764 (by decide +kernel) (by decide +kernel)
theorem gm_ini : Cond.initialized "java/lang/Math" ∈ gt := gt_at 147 (by decide +kernel) (by decide +kernel)
theorem gm_sys : Cond.initialized "java/lang/System" ∈ gt := gt_at 149 (by decide +kernel) (by decide +kernel)
theorem gm_nat : Cond.native arraycopyName ∈ gt := gt_at 817 (by decide +kernel) (by decide +kernel)
theorem gm_cs : Cond.static arraycopyName ∈ gt := gt_at 816 (by decide +kernel) (by decide +kernel)
theorem gm_oi : Cond.instanceMethod Lib.objectInit ∈ gt := gt_at 161 (by decide +kernel) (by decide +kernel)
theorem gm_min_c : Cond.code Lib.Math.min.name Lib.Math.min.code 2 (some .int) ∈ gt := gt_at 655 (by decide +kernel) (by decide +kernel)
theorem gm_max_c : Cond.code Lib.Math.max.name Lib.Math.max.code 2 (some .int) ∈ gt := gt_at 765 (by decide +kernel) (by decide +kernel)
theorem gm_oi_c : Cond.code Lib.objectInit ⟨#[0xb1]⟩ 1 none ∈ gt := gt_at 162 (by decide +kernel) (by decide +kernel)

/-! ===== String.length and String.charAt of the texts ===== -/
theorem gt_at {w : Cond} (i : Nat) (h : lw_tbl[i]? = some w) (hg : goodWord w = true) : w ∈ gt := List.mem_filter.mpr ⟨List.mem_of_getElem? h, hg⟩
theorem gt_good {w : Cond} (h : w ∈ gt) : (w.onTables && w.keeps) = true ∨ ∃ ty, w = .arrayClass ty := good_of_word (List.mem_filter.mp h).2
theorem gt_in {y : MethodName} {cc : ByteArray} {n : Nat} {ret : Option FieldType} (h : Cond.code y cc n ret ∈ gt) {y1 : MethodName} {cc1 : ByteArray} {n1 : Nat} {ret1 : Option FieldType} : GoodIn (.code y1 cc1 n1 ret1 :: gt) (.code y cc n ret :: gt) := fun w hw => (List.mem_cons.mp hw).elim (fun e => by subst e; exact ⟨List.mem_cons_of_mem _ h, gt_good h⟩) (fun h => ⟨List.mem_cons_of_mem _ h, gt_good h⟩)
/-- a method that leaves the heap as it is -/
def QcP (v : Option Value) : Array Value → State → Outcome → State → Prop := fun _ st oc t => oc = .returned v ∧ t.heap = st.heap
def noA : Nat → Prop := fun _ => False
section PU
variable {p : Program} {l : Launch} {e : Env} {R : Room} {s : State} {m : MethodId} {args : Array Value} {below : List Frame} {meth : Method} {c : Code} {H : Heap} {locs : List Loc} {cells slots : Nat} {Q : State → Prop}
theorem pu_call {pc : Nat} {ls : Array Slot} {st0 rest : List Value} {v : Option Value} {a : Array Value} (hr : va_Run p l e R s m args below meth c H locs cells slots 0 0 (F0 m pc ls st0) rest (QcP v a) noA) (kk : W p l e R s m args below meth c H locs cells slots Q (F0 m (pc + 3) ls (v.toList ++ rest))) : W p l e R s m args below meth c H locs cells slots Q (F0 m pc ls st0) := by
  intro T hT X
  obtain ⟨v1, st₀, t, T', Lx, h0, X', hL, e1, e2, ⟨hv, hh⟩, st⟩ := hr T hT X
  cases hv
  have hLn : Lx = [] := by
    cases Lx with
    | nil => rfl
    | cons q _ => exact absurd (hL q List.mem_cons_self) (fun h => h)
  subst hLn
  rw [List.append_nil] at X'
  obtain ⟨t2, a1, b1⟩ := kk T' (by rw [e1, hh, h0]) X'
  exact ⟨t2, st t2 a1, b1⟩
end PU
def jm0 : Room := { frames := 0, cells := 0, slots := 0, locals := 0 }
def jm1 : Room := { frames := 1, cells := 0, slots := 0, locals := 30 }
def jm2 : Room := { frames := 2, cells := 0, slots := 0, locals := 60 }
def jm3 : Room := { frames := 3, cells := 0, slots := 0, locals := 90 }
def jCS (U : State) : Prop := va_Z "java/lang/String" "COMPACT_STRINGS" "Z" (.int 1) noA U U.heap
def jCo (a : Nat) (U : State) : Prop := va_OF "java/lang/String" "coder" "B" (.int 0) a noA U U.heap
def jVa (a q : Nat) (U : State) : Prop := va_OF "java/lang/String" "value" "[B" (.ref q) a noA U U.heap
def jTx (q : Nat) (bs : List Nat) (U : State) : Prop := va_T .byte q bs.length (fun j => .int (Int32.ofNat (bs.getD j 0))) noA U U.heap
def jSi (U : State) : Prop := ∃ v, va_Z "jdk/internal/util/Preconditions" "SIOOBE_FORMATTER" "Ljava/util/function/BiFunction;" v noA U U.heap ∧ (v = .null ∨ ∃ a, v = .ref a)
def jO (a : Nat) (U : State) : Prop := va_O "java/lang/String" a noA U U.heap
theorem jCS.to {s U : State} (hv : s.vm.Alike U.vm) (hh : U.heap = s.heap) (h : jCS s) : jCS U := by unfold jCS; rw [hh]; exact va_Z.moved hv h
theorem jCo.to {a : Nat} {s U : State} (hv : s.vm.Alike U.vm) (hh : U.heap = s.heap) (h : jCo a s) : jCo a U := by unfold jCo; rw [hh]; exact va_OF.moved hv h
theorem jVa.to {a q : Nat} {s U : State} (hv : s.vm.Alike U.vm) (hh : U.heap = s.heap) (h : jVa a q s) : jVa a q U := by unfold jVa; rw [hh]; exact va_OF.moved hv h
theorem jTx.to {q : Nat} {bs : List Nat} {s U : State} (hv : s.vm.Alike U.vm) (hh : U.heap = s.heap) (h : jTx q bs s) : jTx q bs U := by unfold jTx; rw [hh]; exact va_T.moved hv h
theorem jSi.to {s U : State} (hv : s.vm.Alike U.vm) (hh : U.heap = s.heap) (h : jSi s) : jSi U := by
  obtain ⟨v, h1, h2⟩ := h
  exact ⟨v, by rw [hh]; exact va_Z.moved hv h1, h2⟩
theorem jO.to {a : Nat} {s U : State} (hv : s.vm.Alike U.vm) (hh : U.heap = s.heap) (h : jO a s) : jO a U := by unfold jO; rw [hh]; exact va_O.moved hv h
theorem blind {av : List Value} {B : State → Prop} (h : ∀ s U : State, s.vm.Alike U.vm → U.heap = s.heap → B s → B U) : FrameBlind (va_Pc av B) := fun _ U g mk q => ⟨q.1, h U _ (Vm.Alike.refl U.vm) rfl q.2⟩
abbrev wJ (y : MethodName) (cc : ByteArray) (n : Nat) (ret : Option FieldType) : List Cond := .code y cc n ret :: gt
theorem gj_code_coder : Cond.code yJ0_coder_7d493 cJ0_coder_7d493 1 (some .byte) ∈ gt := gt_at 334 (by decide +kernel) (by decide +kernel)
theorem gj_code_lat : Cond.code yJ0_isLatin1_aae02 cJ0_isLatin1_aae02 1 (some .boolean) ∈ gt := gt_at 345 (by decide +kernel) (by decide +kernel)
theorem gj_code_pre : Cond.code yJ3_checkIndex_8e157 cJ3_checkIndex_8e157 3 (some .int) ∈ gt := gt_at 356 (by decide +kernel) (by decide +kernel)
theorem gj_code_chk : Cond.code yJ0_checkIndex_df160 cJ0_checkIndex_df160 2 none ∈ gt := gt_at 351 (by decide +kernel) (by decide +kernel)
theorem gj_code_c1 : Cond.code yJ1_charAt_3b067 cJ1_charAt_3b067 2 (some .char) ∈ gt := gt_at 348 (by decide +kernel) (by decide +kernel)
theorem gj_code_c0 : Cond.code yJ0_charAt_5068e cJ0_charAt_5068e 2 (some .char) ∈ gt := gt_at 341 (by decide +kernel) (by decide +kernel)
theorem gj_code_len : Cond.code yJ0_length_8abf5 cJ0_length_8abf5 1 (some .int) ∈ gt := gt_at 330 (by decide +kernel) (by decide +kernel)
theorem gj_ini_str : Cond.initialized "java/lang/String" ∈ gt := gt_at 134 (by decide +kernel) (by decide +kernel)
theorem gj_ini_l1 : Cond.initialized "java/lang/StringLatin1" ∈ gt := gt_at 135 (by decide +kernel) (by decide +kernel)
theorem gj_ini_pre : Cond.initialized "jdk/internal/util/Preconditions" ∈ gt := gt_at 136 (by decide +kernel) (by decide +kernel)
theorem gj_cs : Cond.fieldLink RJ0 38 "java/lang/String" "COMPACT_STRINGS" "Z" ∈ gt := gt_at 335 (by decide +kernel) (by decide +kernel)
theorem gj_fmt : Cond.fieldLink RJ0 1053 "jdk/internal/util/Preconditions" "SIOOBE_FORMATTER" "Ljava/util/function/BiFunction;" ∈ gt := gt_at 352 (by decide +kernel) (by decide +kernel)
theorem gj_val : Cond.fieldLink RJ0 9 "java/lang/String" "value" "[B" ∈ gt := gt_at 2297 (by decide +kernel) (by decide +kernel)
theorem gj_cod : Cond.fieldLink RJ0 15 "java/lang/String" "coder" "B" ∈ gt := gt_at 2298 (by decide +kernel) (by decide +kernel)
theorem gj_l_coder : Cond.methodLink RJ0 335 yJ0_coder_7d493 ∈ gt := gt_at 331 (by decide +kernel) (by decide +kernel)
theorem gj_i_coder : Cond.instanceMethod yJ0_coder_7d493 ∈ gt := gt_at 332 (by decide +kernel) (by decide +kernel)
theorem gj_s_coder : Cond.selects RJ0 yJ0_coder_7d493 yJ0_coder_7d493 ∈ gt := gt_at 333 (by decide +kernel) (by decide +kernel)
theorem gj_l_lat : Cond.methodLink RJ0 492 yJ0_isLatin1_aae02 ∈ gt := gt_at 342 (by decide +kernel) (by decide +kernel)
theorem gj_i_lat : Cond.instanceMethod yJ0_isLatin1_aae02 ∈ gt := gt_at 343 (by decide +kernel) (by decide +kernel)
theorem gj_s_lat : Cond.selects RJ0 yJ0_isLatin1_aae02 yJ0_isLatin1_aae02 ∈ gt := gt_at 344 (by decide +kernel) (by decide +kernel)
theorem gj_l_c1 : Cond.methodLink RJ0 495 yJ1_charAt_3b067 ∈ gt := gt_at 346 (by decide +kernel) (by decide +kernel)
theorem gj_t_c1 : Cond.static yJ1_charAt_3b067 ∈ gt := gt_at 347 (by decide +kernel) (by decide +kernel)
theorem gj_l_chk : Cond.methodLink RJ1 9 yJ0_checkIndex_df160 ∈ gt := gt_at 349 (by decide +kernel) (by decide +kernel)
theorem gj_t_chk : Cond.static yJ0_checkIndex_df160 ∈ gt := gt_at 350 (by decide +kernel) (by decide +kernel)
theorem gj_l_pre : Cond.methodLink RJ0 1059 yJ3_checkIndex_8e157 ∈ gt := gt_at 354 (by decide +kernel) (by decide +kernel)
theorem gj_t_pre : Cond.static yJ3_checkIndex_8e157 ∈ gt := gt_at 355 (by decide +kernel) (by decide +kernel)
theorem gj_i_len : Cond.instanceMethod yJ0_length_8abf5 ∈ gt := gt_at 328 (by decide +kernel) (by decide +kernel)
theorem gj_s_len : Cond.selects RJ0 yJ0_length_8abf5 yJ0_length_8abf5 ∈ gt := gt_at 329 (by decide +kernel) (by decide +kernel)
theorem gj_i_c0 : Cond.instanceMethod yJ0_charAt_5068e ∈ gt := gt_at 339 (by decide +kernel) (by decide +kernel)
theorem gj_s_c0 : Cond.selects RJ0 yJ0_charAt_5068e yJ0_charAt_5068e ∈ gt := gt_at 340 (by decide +kernel) (by decide +kernel)
theorem dJ0_coder_7d493_0 : decode cJ0_coder_7d493 0 = .ok (.getstatic 38, 3) := by decide +kernel
theorem dJ0_coder_7d493_3 : decode cJ0_coder_7d493 3 = .ok (.ifCond .eq 10, 3) := by decide +kernel
theorem dJ0_coder_7d493_6 : decode cJ0_coder_7d493 6 = .ok (.aload_n 0, 1) := by decide +kernel
theorem dJ0_coder_7d493_7 : decode cJ0_coder_7d493 7 = .ok (.getfield 15, 3) := by decide +kernel
theorem dJ0_coder_7d493_10 : decode cJ0_coder_7d493 10 = .ok (.goto 4, 3) := by decide +kernel
theorem dJ0_coder_7d493_13 : decode cJ0_coder_7d493 13 = .ok (.iconst 1, 1) := by decide +kernel
theorem dJ0_coder_7d493_14 : decode cJ0_coder_7d493 14 = .ok (.ireturn, 1) := by decide +kernel
theorem dJ0_isLatin1_aae02_0 : decode cJ0_isLatin1_aae02 0 = .ok (.getstatic 38, 3) := by decide +kernel
theorem dJ0_isLatin1_aae02_3 : decode cJ0_isLatin1_aae02 3 = .ok (.ifCond .eq 14, 3) := by decide +kernel
theorem dJ0_isLatin1_aae02_6 : decode cJ0_isLatin1_aae02 6 = .ok (.aload_n 0, 1) := by decide +kernel
theorem dJ0_isLatin1_aae02_7 : decode cJ0_isLatin1_aae02 7 = .ok (.getfield 15, 3) := by decide +kernel
theorem dJ0_isLatin1_aae02_10 : decode cJ0_isLatin1_aae02 10 = .ok (.ifCond .ne 7, 3) := by decide +kernel
theorem dJ0_isLatin1_aae02_13 : decode cJ0_isLatin1_aae02 13 = .ok (.iconst 1, 1) := by decide +kernel
theorem dJ0_isLatin1_aae02_14 : decode cJ0_isLatin1_aae02 14 = .ok (.goto 4, 3) := by decide +kernel
theorem dJ0_isLatin1_aae02_17 : decode cJ0_isLatin1_aae02 17 = .ok (.iconst 0, 1) := by decide +kernel
theorem dJ0_isLatin1_aae02_18 : decode cJ0_isLatin1_aae02 18 = .ok (.ireturn, 1) := by decide +kernel
theorem dJ3_checkIndex_8e157_0 : decode cJ3_checkIndex_8e157 0 = .ok (.iload_n 0, 1) := by decide +kernel
theorem dJ3_checkIndex_8e157_1 : decode cJ3_checkIndex_8e157 1 = .ok (.ifCond .lt 8, 3) := by decide +kernel
theorem dJ3_checkIndex_8e157_4 : decode cJ3_checkIndex_8e157 4 = .ok (.iload_n 0, 1) := by decide +kernel
theorem dJ3_checkIndex_8e157_5 : decode cJ3_checkIndex_8e157 5 = .ok (.iload_n 1, 1) := by decide +kernel
theorem dJ3_checkIndex_8e157_6 : decode cJ3_checkIndex_8e157 6 = .ok (.if_icmp .lt 10, 3) := by decide +kernel
theorem dJ3_checkIndex_8e157_9 : decode cJ3_checkIndex_8e157 9 = .ok (.aload_n 2, 1) := by decide +kernel
theorem dJ3_checkIndex_8e157_10 : decode cJ3_checkIndex_8e157 10 = .ok (.iload_n 0, 1) := by decide +kernel
theorem dJ3_checkIndex_8e157_11 : decode cJ3_checkIndex_8e157 11 = .ok (.iload_n 1, 1) := by decide +kernel
theorem dJ3_checkIndex_8e157_12 : decode cJ3_checkIndex_8e157 12 = .ok (.invokestatic 95, 3) := by decide +kernel
theorem dJ3_checkIndex_8e157_15 : decode cJ3_checkIndex_8e157 15 = .ok (.athrow, 1) := by decide +kernel
theorem dJ3_checkIndex_8e157_16 : decode cJ3_checkIndex_8e157 16 = .ok (.iload_n 0, 1) := by decide +kernel
theorem dJ3_checkIndex_8e157_17 : decode cJ3_checkIndex_8e157 17 = .ok (.ireturn, 1) := by decide +kernel
theorem dJ0_checkIndex_df160_0 : decode cJ0_checkIndex_df160 0 = .ok (.iload_n 0, 1) := by decide +kernel
theorem dJ0_checkIndex_df160_1 : decode cJ0_checkIndex_df160 1 = .ok (.iload_n 1, 1) := by decide +kernel
theorem dJ0_checkIndex_df160_2 : decode cJ0_checkIndex_df160 2 = .ok (.getstatic 1053, 3) := by decide +kernel
theorem dJ0_checkIndex_df160_5 : decode cJ0_checkIndex_df160 5 = .ok (.invokestatic 1059, 3) := by decide +kernel
theorem dJ0_checkIndex_df160_8 : decode cJ0_checkIndex_df160 8 = .ok (.pop, 1) := by decide +kernel
theorem dJ0_checkIndex_df160_9 : decode cJ0_checkIndex_df160 9 = .ok (.return_, 1) := by decide +kernel
theorem dJ1_charAt_3b067_0 : decode cJ1_charAt_3b067 0 = .ok (.iload_n 1, 1) := by decide +kernel
theorem dJ1_charAt_3b067_1 : decode cJ1_charAt_3b067 1 = .ok (.aload_n 0, 1) := by decide +kernel
theorem dJ1_charAt_3b067_2 : decode cJ1_charAt_3b067 2 = .ok (.arraylength, 1) := by decide +kernel
theorem dJ1_charAt_3b067_3 : decode cJ1_charAt_3b067 3 = .ok (.invokestatic 9, 3) := by decide +kernel
theorem dJ1_charAt_3b067_6 : decode cJ1_charAt_3b067 6 = .ok (.aload_n 0, 1) := by decide +kernel
theorem dJ1_charAt_3b067_7 : decode cJ1_charAt_3b067 7 = .ok (.iload_n 1, 1) := by decide +kernel
theorem dJ1_charAt_3b067_8 : decode cJ1_charAt_3b067 8 = .ok (.baload, 1) := by decide +kernel
theorem dJ1_charAt_3b067_9 : decode cJ1_charAt_3b067 9 = .ok (.sipush 255, 3) := by decide +kernel
theorem dJ1_charAt_3b067_12 : decode cJ1_charAt_3b067 12 = .ok (.iand, 1) := by decide +kernel
theorem dJ1_charAt_3b067_13 : decode cJ1_charAt_3b067 13 = .ok (.i2c, 1) := by decide +kernel
theorem dJ1_charAt_3b067_14 : decode cJ1_charAt_3b067 14 = .ok (.ireturn, 1) := by decide +kernel
theorem dJ0_charAt_5068e_0 : decode cJ0_charAt_5068e 0 = .ok (.aload_n 0, 1) := by decide +kernel
theorem dJ0_charAt_5068e_1 : decode cJ0_charAt_5068e 1 = .ok (.invokevirtual 492, 3) := by decide +kernel
theorem dJ0_charAt_5068e_4 : decode cJ0_charAt_5068e 4 = .ok (.ifCond .eq 12, 3) := by decide +kernel
theorem dJ0_charAt_5068e_7 : decode cJ0_charAt_5068e 7 = .ok (.aload_n 0, 1) := by decide +kernel
theorem dJ0_charAt_5068e_8 : decode cJ0_charAt_5068e 8 = .ok (.getfield 9, 3) := by decide +kernel
theorem dJ0_charAt_5068e_11 : decode cJ0_charAt_5068e 11 = .ok (.iload_n 1, 1) := by decide +kernel
theorem dJ0_charAt_5068e_12 : decode cJ0_charAt_5068e 12 = .ok (.invokestatic 495, 3) := by decide +kernel
theorem dJ0_charAt_5068e_15 : decode cJ0_charAt_5068e 15 = .ok (.ireturn, 1) := by decide +kernel
theorem dJ0_charAt_5068e_16 : decode cJ0_charAt_5068e 16 = .ok (.aload_n 0, 1) := by decide +kernel
theorem dJ0_charAt_5068e_17 : decode cJ0_charAt_5068e 17 = .ok (.getfield 9, 3) := by decide +kernel
theorem dJ0_charAt_5068e_20 : decode cJ0_charAt_5068e 20 = .ok (.iload_n 1, 1) := by decide +kernel
theorem dJ0_charAt_5068e_21 : decode cJ0_charAt_5068e 21 = .ok (.invokestatic 498, 3) := by decide +kernel
theorem dJ0_charAt_5068e_24 : decode cJ0_charAt_5068e 24 = .ok (.ireturn, 1) := by decide +kernel
theorem dJ0_length_8abf5_0 : decode cJ0_length_8abf5 0 = .ok (.aload_n 0, 1) := by decide +kernel
theorem dJ0_length_8abf5_1 : decode cJ0_length_8abf5 1 = .ok (.getfield 9, 3) := by decide +kernel
theorem dJ0_length_8abf5_4 : decode cJ0_length_8abf5 4 = .ok (.arraylength, 1) := by decide +kernel
theorem dJ0_length_8abf5_5 : decode cJ0_length_8abf5 5 = .ok (.aload_n 0, 1) := by decide +kernel
theorem dJ0_length_8abf5_6 : decode cJ0_length_8abf5 6 = .ok (.invokevirtual 335, 3) := by decide +kernel
theorem dJ0_length_8abf5_9 : decode cJ0_length_8abf5 9 = .ok (.ishr, 1) := by decide +kernel
theorem dJ0_length_8abf5_10 : decode cJ0_length_8abf5 10 = .ok (.ireturn, 1) := by decide +kernel
set_option maxRecDepth 100000 in
theorem c_coder (l : Launch) (a : Nat) : Met l yJ0_coder_7d493 (wJ yJ0_coder_7d493 cJ0_coder_7d493 1 (some .byte)) jm0 (va_Pc [.ref a] (fun U => jCS U ∧ jCo a U)) (QcP (some (.int 0))) 0 0 noA := by
  refine Met.ofW (cc := cJ0_coder_7d493) (maxL := 1) (ret := some .byte) (by decide) rfl ?_
  intro p e s m args below meth c s₁ B hml hv
  obtain ⟨rfl, h1, h2⟩ := hv
  have hx := B.exec
  have hb := B.bytes
  have hr := B.returns
  have hlocks := B.notSynchronized
  have hts := fun w (h : w ∈ gt) => atoms_spec (ws := wJ yJ0_coder_7d493 cJ0_coder_7d493 1 (some .byte)) B.pre w (List.mem_cons_of_mem _ h)
  have hown : s.vm.findClass RJ0 = some m.cls := findClass_of_methodNamed B.named
  have hS : va_S noA s.heap s.heap [] := va_S.rf
  have hl := lv_entry ([.ref a]) (n := 1) (Nat.le_of_ble_eq_true rfl)
  rw [lg_entry_eq]
  generalize (lg_sl ([.ref a]) ++ List.replicate (1 - (lg_sl ([.ref a])).length) Slot.unset).toArray = ls at hl ⊢
  refine va_gets hx hb h1 hS hown (hts _ gj_cs) (fun _ h => h) dJ0_coder_7d493_0 ?_
  refine lv_if_eq (tgt := 13) hx hb dJ0_coder_7d493_3 (by decide) (fun h => absurd h (by decide)) (fun _ => ?_)
  refine lv_aload_n hx hb dJ0_coder_7d493_6 rfl (lv_at hl 0 rfl) ?_
  refine vk_getf hx hb h2 hS hown (hts _ gj_cod) (fun _ h => h) dJ0_coder_7d493_7 ?_
  refine lv_goto (tgt := 14) hx hb dJ0_coder_7d493_10 (by decide) ?_
  exact W.zret hx hb hr rfl (fun t ht _ => ⟨rfl, ht⟩) (fun q hq => by cases hq) dJ0_coder_7d493_14
set_option maxRecDepth 100000 in
theorem c_isLatin1 (l : Launch) (a : Nat) : Met l yJ0_isLatin1_aae02 (wJ yJ0_isLatin1_aae02 cJ0_isLatin1_aae02 1 (some .boolean)) jm0 (va_Pc [.ref a] (fun U => jCS U ∧ jCo a U)) (QcP (some (.int 1))) 0 0 noA := by
  refine Met.ofW (cc := cJ0_isLatin1_aae02) (maxL := 1) (ret := some .boolean) (by decide) rfl ?_
  intro p e s m args below meth c s₁ B hml hv
  obtain ⟨rfl, h1, h2⟩ := hv
  have hx := B.exec
  have hb := B.bytes
  have hr := B.returns
  have hlocks := B.notSynchronized
  have hts := fun w (h : w ∈ gt) => atoms_spec (ws := wJ yJ0_isLatin1_aae02 cJ0_isLatin1_aae02 1 (some .boolean)) B.pre w (List.mem_cons_of_mem _ h)
  have hown : s.vm.findClass RJ0 = some m.cls := findClass_of_methodNamed B.named
  have hS : va_S noA s.heap s.heap [] := va_S.rf
  have hl := lv_entry ([.ref a]) (n := 1) (Nat.le_of_ble_eq_true rfl)
  rw [lg_entry_eq]
  generalize (lg_sl ([.ref a]) ++ List.replicate (1 - (lg_sl ([.ref a])).length) Slot.unset).toArray = ls at hl ⊢
  refine va_gets hx hb h1 hS hown (hts _ gj_cs) (fun _ h => h) dJ0_isLatin1_aae02_0 ?_
  refine lv_if_eq (tgt := 17) hx hb dJ0_isLatin1_aae02_3 (by decide) (fun h => absurd h (by decide)) (fun _ => ?_)
  refine lv_aload_n hx hb dJ0_isLatin1_aae02_6 rfl (lv_at hl 0 rfl) ?_
  refine vk_getf hx hb h2 hS hown (hts _ gj_cod) (fun _ h => h) dJ0_isLatin1_aae02_7 ?_
  refine lv_if_ne (tgt := 17) hx hb dJ0_isLatin1_aae02_10 (by decide) (fun h => absurd rfl h) (fun _ => ?_)
  refine lv_iconst (v := 1) hx hb dJ0_isLatin1_aae02_13 (by decide) ?_
  refine lv_goto (tgt := 18) hx hb dJ0_isLatin1_aae02_14 (by decide) ?_
  exact W.zret hx hb hr rfl (fun t ht _ => ⟨rfl, ht⟩) (fun q hq => by cases hq) dJ0_isLatin1_aae02_18
set_option maxRecDepth 100000 in
theorem c_preCheck (l : Launch) (i n : Int32) (v : Value) (h1 : ¬ i < 0) (h2 : i < n) : Met l yJ3_checkIndex_8e157 (wJ yJ3_checkIndex_8e157 cJ3_checkIndex_8e157 3 (some .int)) jm0 (va_Pc [.int i, .int n, v] (fun _ => v = .null ∨ ∃ a, v = .ref a)) (QcP (some (.int i))) 0 0 noA := by
  refine Met.ofW (cc := cJ3_checkIndex_8e157) (maxL := 3) (ret := some .int) (by decide) rfl ?_
  intro p e s m args below meth c s₁ B hml hv
  obtain ⟨rfl, h3⟩ := hv
  have hx := B.exec
  have hb := B.bytes
  have hr := B.returns
  have hlocks := B.notSynchronized
  have hc3 : v.category = 1 := by rcases h3 with h | ⟨a, h⟩ <;> subst h <;> rfl
  have hsl : lg_sl [.int i, .int n, v] = [.val (.int i), .val (.int n), .val v] := by
    rcases h3 with h | ⟨a, h⟩ <;> subst h <;> rfl
  have hl := lv_entry ([.int i, .int n, v]) (n := 3) (by rw [hsl]; exact Nat.le_refl _)
  rw [lg_entry_eq]
  have e0 : ∀ q ∈ [((0 : Nat), Value.int i), (1, .int n)], q ∈ lv_args 0 [.int i, .int n, v] := by
    rcases h3 with h | ⟨a, h⟩ <;> subst h <;> simp [lv_args, Value.category]
  have hl2 : lv_has ((lg_sl [.int i, .int n, v] ++ List.replicate (3 - (lg_sl [.int i, .int n, v]).length) Slot.unset).toArray) 3 [((0 : Nat), Value.int i), (1, .int n)] := ⟨hl.1, hl.2.1, fun q hq => hl.2.2 q (e0 q hq)⟩
  generalize (lg_sl [.int i, .int n, v] ++ List.replicate (3 - (lg_sl [.int i, .int n, v]).length) Slot.unset).toArray = ls at hl2 ⊢
  refine lv_iload_n hx hb dJ3_checkIndex_8e157_0 rfl (lv_at hl2 0 rfl) ?_
  refine lv_if_lt (tgt := 9) hx hb dJ3_checkIndex_8e157_1 (by decide) (fun h => absurd h h1) (fun _ => ?_)
  refine lv_iload_n hx hb dJ3_checkIndex_8e157_4 rfl (lv_at hl2 0 rfl) ?_
  refine lv_iload_n hx hb dJ3_checkIndex_8e157_5 rfl (lv_at hl2 1 rfl) ?_
  refine lv_icmp_lt (tgt := 16) hx hb dJ3_checkIndex_8e157_6 (by decide) (fun _ => ?_) (fun h => absurd h2 h)
  refine lv_iload_n hx hb dJ3_checkIndex_8e157_16 rfl (lv_at hl2 0 rfl) ?_
  exact W.iret hx hb hr (fun t ht _ => ⟨rfl, ht⟩) (fun q hq => by cases hq) dJ3_checkIndex_8e157_17
set_option maxRecDepth 100000 in
theorem c_strCheck (l : Launch) (i n : Int32) (h1 : ¬ i < 0) (h2 : i < n) : Met l yJ0_checkIndex_df160 (wJ yJ0_checkIndex_df160 cJ0_checkIndex_df160 2 none) jm1 (va_Pc [.int i, .int n] (fun U => jSi U)) (QcP none) 0 0 noA := by
  refine Met.ofW (cc := cJ0_checkIndex_df160) (maxL := 2) (ret := none) (by decide) rfl ?_
  intro p e s m args below meth c s₁ B hml hv
  obtain ⟨rfl, v, h3, h4⟩ := hv
  have hx := B.exec
  have hb := B.bytes
  have hr := B.returns
  have hlocks := B.notSynchronized
  have hts := fun w (h : w ∈ gt) => atoms_spec (ws := wJ yJ0_checkIndex_df160 cJ0_checkIndex_df160 2 none) B.pre w (List.mem_cons_of_mem _ h)
  have hts1 := atoms_spec (ws := wJ yJ0_checkIndex_df160 cJ0_checkIndex_df160 2 none) B.pre
  have hown : s.vm.findClass RJ0 = some m.cls := findClass_of_methodNamed B.named
  have hS : va_S noA s.heap s.heap [] := va_S.rf
  have hl := lv_entry ([.int i, .int n]) (n := 2) (Nat.le_of_ble_eq_true rfl)
  rw [lg_entry_eq]
  generalize (lg_sl ([.int i, .int n]) ++ List.replicate (2 - (lg_sl ([.int i, .int n])).length) Slot.unset).toArray = ls at hl ⊢
  refine lv_iload_n hx hb dJ0_checkIndex_df160_0 rfl (lv_at hl 0 rfl) ?_
  refine lv_iload_n hx hb dJ0_checkIndex_df160_1 rfl (lv_at hl 1 rfl) ?_
  refine va_gets hx hb h3 hS hown (hts _ gj_fmt) (fun _ h => h) dJ0_checkIndex_df160_2 ?_
  refine pu_call (va_runS (As := [.int i, .int n, v]) (rest := []) ⟨hx, hb, hml, hown, hts1⟩ (c_preCheck l i n v h1 h2) ⟨callB_of 3 hts1 (gt_in gj_code_pre) rfl rfl rfl (hts _ gj_ini_pre) (hts _ gj_l_pre) (by decide +kernel) ⟨Nat.le_of_ble_eq_true rfl, Nat.le_of_ble_eq_true rfl⟩, hts _ gj_t_pre⟩ ⟨blind (fun _ _ _ _ h => h), fun U _ _ => ⟨rfl, h4⟩⟩ rfl rfl hl.1 rfl (lv_room (Nat.le_of_ble_eq_true rfl)) dJ0_checkIndex_df160_5 ⟨Nat.le_of_ble_eq_true rfl, Nat.le_of_ble_eq_true rfl⟩) ?_
  refine lv_pop hx hb dJ0_checkIndex_df160_8 rfl ?_
  exact W.vret hx hb hr (fun t ht _ => ⟨rfl, ht⟩) (fun q hq => by cases hq) dJ0_checkIndex_df160_9
set_option maxRecDepth 100000 in
theorem c_charAt1 (l : Launch) (q i : Nat) (bs : List Nat) (hi : i < bs.length) (hn : bs.length < 1000) (hb8 : bs.getD i 0 < 128) : Met l yJ1_charAt_3b067 (wJ yJ1_charAt_3b067 cJ1_charAt_3b067 2 (some .char)) jm2 (va_Pc [.ref q, .int (Int32.ofNat i)] (fun U => jTx q bs U ∧ jSi U)) (QcP (some (.int (Int32.ofNat (bs.getD i 0))))) 0 0 noA := by
  refine Met.ofW (cc := cJ1_charAt_3b067) (maxL := 2) (ret := some .char) (by decide) rfl ?_
  intro p e s m args below meth c s₁ B hml hv
  obtain ⟨rfl, h3, h4⟩ := hv
  have hx := B.exec
  have hb := B.bytes
  have hr := B.returns
  have hlocks := B.notSynchronized
  have hts := fun w (h : w ∈ gt) => atoms_spec (ws := wJ yJ1_charAt_3b067 cJ1_charAt_3b067 2 (some .char)) B.pre w (List.mem_cons_of_mem _ h)
  have hts1 := atoms_spec (ws := wJ yJ1_charAt_3b067 cJ1_charAt_3b067 2 (some .char)) B.pre
  have hown : s.vm.findClass RJ1 = some m.cls := findClass_of_methodNamed B.named
  have hS : va_S noA s.heap s.heap [] := va_S.rf
  have hi0 : ¬ Int32.ofNat i < 0 := nI_pos (n := i) (by omega)
  have hil : Int32.ofNat i < Int32.ofNat bs.length := nI_lt hi (by omega)
  have hl := lv_entry ([.ref q, .int (Int32.ofNat i)]) (n := 2) (Nat.le_of_ble_eq_true rfl)
  rw [lg_entry_eq]
  generalize (lg_sl ([.ref q, .int (Int32.ofNat i)]) ++ List.replicate (2 - (lg_sl ([.ref q, .int (Int32.ofNat i)])).length) Slot.unset).toArray = ls at hl ⊢
  refine lv_iload_n hx hb dJ1_charAt_3b067_0 rfl (lv_at hl 1 rfl) ?_
  refine lv_aload_n hx hb dJ1_charAt_3b067_1 rfl (lv_at hl 0 rfl) ?_
  refine va_tlen hx hb h3 hS rfl dJ1_charAt_3b067_2 ?_
  refine pu_call (va_runS (As := [.int (Int32.ofNat i), .int (Int32.ofNat bs.length)]) (rest := []) ⟨hx, hb, hml, hown, hts1⟩ (c_strCheck l _ _ hi0 hil) ⟨callB_of 2 hts1 (gt_in gj_code_chk) rfl rfl rfl (hts _ gj_ini_str) (hts _ gj_l_chk) (by decide +kernel) ⟨Nat.le_of_ble_eq_true rfl, Nat.le_of_ble_eq_true rfl⟩, hts _ gj_t_chk⟩ ⟨blind (fun _ _ hv hh h => h.to hv hh), fun U hU hW => ⟨rfl, h4.to hW.alike hU⟩⟩ rfl rfl hl.1 rfl (lv_room (Nat.le_of_ble_eq_true rfl)) dJ1_charAt_3b067_3 ⟨Nat.le_of_ble_eq_true rfl, Nat.le_of_ble_eq_true rfl⟩) ?_
  refine lv_aload_n hx hb dJ1_charAt_3b067_6 rfl (lv_at hl 0 rfl) ?_
  refine lv_iload_n hx hb dJ1_charAt_3b067_7 rfl (lv_at hl 1 rfl) ?_
  refine va_tb hx hb h3 hS (vp_in_nI hi (by omega)) rfl dJ1_charAt_3b067_8 ?_
  refine lv_sipush (v := 255) hx hb dJ1_charAt_3b067_9 (by decide) ?_
  refine lv_iand hx hb dJ1_charAt_3b067_12 ?_
  have ec : (Int32.ofNat i).toNatClampNeg = i := nI_clamp (n := i) (by omega)
  rw [ec]
  have e1 : ∀ k, k < 128 → Int32.ofNat k &&& 255 = Int32.ofNat k := by decide +kernel
  have e2 : ∀ k, k < 128 → ((Int32.ofNat k).toUInt32 % 65536).toInt32 = Int32.ofNat k := by decide +kernel
  have e3 : ∀ k, k < 128 → narrow .char (.int (Int32.ofNat k)) = .int (Int32.ofNat k) := by decide +kernel
  rw [e1 _ hb8]
  refine lv_i2c hx hb dJ1_charAt_3b067_13 (e2 _ hb8) ?_
  exact W.zret hx hb hr (e3 _ hb8) (fun t ht _ => ⟨rfl, ht⟩) (fun q hq => by cases hq) dJ1_charAt_3b067_14
set_option maxRecDepth 100000 in
theorem c_charAt0 (l : Launch) (a q i : Nat) (bs : List Nat) (hi : i < bs.length) (hn : bs.length < 1000) (hb8 : bs.getD i 0 < 128) : Met l yJ0_charAt_5068e (wJ yJ0_charAt_5068e cJ0_charAt_5068e 2 (some .char)) jm3 (va_Pc [.ref a, .int (Int32.ofNat i)] (fun U => jO a U ∧ jCS U ∧ jCo a U ∧ jVa a q U ∧ jTx q bs U ∧ jSi U)) (QcP (some (.int (Int32.ofNat (bs.getD i 0))))) 0 0 noA := by
  refine Met.ofW (cc := cJ0_charAt_5068e) (maxL := 2) (ret := some .char) (by decide) rfl ?_
  intro p e s m args below meth c s₁ B hml hv
  obtain ⟨rfl, h1, h2, h3, h4, h5, h6⟩ := hv
  have hx := B.exec
  have hb := B.bytes
  have hr := B.returns
  have hlocks := B.notSynchronized
  have hts := fun w (h : w ∈ gt) => atoms_spec (ws := wJ yJ0_charAt_5068e cJ0_charAt_5068e 2 (some .char)) B.pre w (List.mem_cons_of_mem _ h)
  have hts1 := atoms_spec (ws := wJ yJ0_charAt_5068e cJ0_charAt_5068e 2 (some .char)) B.pre
  have hown : s.vm.findClass RJ0 = some m.cls := findClass_of_methodNamed B.named
  have hS : va_S noA s.heap s.heap [] := va_S.rf
  have hl := lv_entry ([.ref a, .int (Int32.ofNat i)]) (n := 2) (Nat.le_of_ble_eq_true rfl)
  rw [lg_entry_eq]
  generalize (lg_sl ([.ref a, .int (Int32.ofNat i)]) ++ List.replicate (2 - (lg_sl ([.ref a, .int (Int32.ofNat i)])).length) Slot.unset).toArray = ls at hl ⊢
  refine lv_aload_n hx hb dJ0_charAt_5068e_0 rfl (lv_at hl 0 rfl) ?_
  obtain ⟨cB, o1, o2, o3, -⟩ := id h1
  refine pu_call (va_runV (C := RJ0) (b := a) (As := []) (rest := []) ⟨hx, hb, hml, hown, hts1⟩ (c_isLatin1 l a) ⟨callB_of 0 hts1 (gt_in gj_code_lat) rfl rfl rfl (hts _ gj_ini_str) (hts _ gj_l_lat) (by decide +kernel) ⟨Nat.le_of_ble_eq_true rfl, Nat.le_of_ble_eq_true rfl⟩, hts _ gj_i_lat, hts _ gj_s_lat⟩ ⟨blind (fun _ _ hv hh h => ⟨h.1.to hv hh, h.2.to hv hh⟩), ⟨cB, o1, o2, o3⟩, fun U hU hW => ⟨rfl, h2.to hW.alike hU, h3.to hW.alike hU⟩⟩ rfl rfl hl.1 rfl (lv_room (Nat.le_of_ble_eq_true rfl)) dJ0_charAt_5068e_1 ⟨Nat.le_of_ble_eq_true rfl, Nat.le_of_ble_eq_true rfl⟩) ?_
  refine lv_if_eq (tgt := 16) hx hb dJ0_charAt_5068e_4 (by decide) (fun h => absurd h (by decide)) (fun _ => ?_)
  refine lv_aload_n hx hb dJ0_charAt_5068e_7 rfl (lv_at hl 0 rfl) ?_
  refine vk_getf hx hb h4 hS hown (hts _ gj_val) (fun _ h => h) dJ0_charAt_5068e_8 ?_
  refine lv_iload_n hx hb dJ0_charAt_5068e_11 rfl (lv_at hl 1 rfl) ?_
  refine pu_call (va_runS (As := [.ref q, .int (Int32.ofNat i)]) (rest := []) ⟨hx, hb, hml, hown, hts1⟩ (c_charAt1 l q i bs hi hn hb8) ⟨callB_of 2 hts1 (gt_in gj_code_c1) rfl rfl rfl (hts _ gj_ini_l1) (hts _ gj_l_c1) (by decide +kernel) ⟨Nat.le_of_ble_eq_true rfl, Nat.le_of_ble_eq_true rfl⟩, hts _ gj_t_c1⟩ ⟨blind (fun _ _ hv hh h => ⟨h.1.to hv hh, h.2.to hv hh⟩), fun U hU hW => ⟨rfl, h5.to hW.alike hU, h6.to hW.alike hU⟩⟩ rfl rfl hl.1 rfl (lv_room (Nat.le_of_ble_eq_true rfl)) dJ0_charAt_5068e_12 ⟨Nat.le_of_ble_eq_true rfl, Nat.le_of_ble_eq_true rfl⟩) ?_
  have e3 : ∀ k, k < 128 → narrow .char (.int (Int32.ofNat k)) = .int (Int32.ofNat k) := by decide +kernel
  exact W.zret hx hb hr (e3 _ hb8) (fun t ht _ => ⟨rfl, ht⟩) (fun q hq => by cases hq) dJ0_charAt_5068e_15
set_option maxRecDepth 100000 in
theorem c_length (l : Launch) (a q : Nat) (bs : List Nat) (hn : bs.length < 1000) : Met l yJ0_length_8abf5 (wJ yJ0_length_8abf5 cJ0_length_8abf5 1 (some .int)) jm1 (va_Pc [.ref a] (fun U => jO a U ∧ jCS U ∧ jCo a U ∧ jVa a q U ∧ jTx q bs U)) (QcP (some (.int (Int32.ofNat bs.length)))) 0 0 noA := by
  refine Met.ofW (cc := cJ0_length_8abf5) (maxL := 1) (ret := some .int) (by decide) rfl ?_
  intro p e s m args below meth c s₁ B hml hv
  obtain ⟨rfl, h1, h2, h3, h4, h5⟩ := hv
  have hx := B.exec
  have hb := B.bytes
  have hr := B.returns
  have hlocks := B.notSynchronized
  have hts := fun w (h : w ∈ gt) => atoms_spec (ws := wJ yJ0_length_8abf5 cJ0_length_8abf5 1 (some .int)) B.pre w (List.mem_cons_of_mem _ h)
  have hts1 := atoms_spec (ws := wJ yJ0_length_8abf5 cJ0_length_8abf5 1 (some .int)) B.pre
  have hown : s.vm.findClass RJ0 = some m.cls := findClass_of_methodNamed B.named
  have hS : va_S noA s.heap s.heap [] := va_S.rf
  have hl := lv_entry ([.ref a]) (n := 1) (Nat.le_of_ble_eq_true rfl)
  rw [lg_entry_eq]
  generalize (lg_sl ([.ref a]) ++ List.replicate (1 - (lg_sl ([.ref a])).length) Slot.unset).toArray = ls at hl ⊢
  obtain ⟨cB, o1, o2, o3, -⟩ := id h1
  refine lv_aload_n hx hb dJ0_length_8abf5_0 rfl (lv_at hl 0 rfl) ?_
  refine vk_getf hx hb h4 hS hown (hts _ gj_val) (fun _ h => h) dJ0_length_8abf5_1 ?_
  refine va_tlen hx hb h5 hS rfl dJ0_length_8abf5_4 ?_
  refine lv_aload_n hx hb dJ0_length_8abf5_5 rfl (lv_at hl 0 rfl) ?_
  refine pu_call (va_runV (C := RJ0) (b := a) (As := []) (rest := [.int (Int32.ofNat bs.length)]) ⟨hx, hb, hml, hown, hts1⟩ (c_coder l a) ⟨callB_of 0 hts1 (gt_in gj_code_coder) rfl rfl rfl (hts _ gj_ini_str) (hts _ gj_l_coder) (by decide +kernel) ⟨Nat.le_of_ble_eq_true rfl, Nat.le_of_ble_eq_true rfl⟩, hts _ gj_i_coder, hts _ gj_s_coder⟩ ⟨blind (fun _ _ hv hh h => ⟨h.1.to hv hh, h.2.to hv hh⟩), ⟨cB, o1, o2, o3⟩, fun U hU hW => ⟨rfl, h2.to hW.alike hU, h3.to hW.alike hU⟩⟩ rfl rfl hl.1 rfl (lv_room (Nat.le_of_ble_eq_true rfl)) dJ0_length_8abf5_6 ⟨Nat.le_of_ble_eq_true rfl, Nat.le_of_ble_eq_true rfl⟩) ?_
  refine lv_ishr hx hb dJ0_length_8abf5_9 ?_
  have e1 : Int32.ofNat bs.length >>> ((0 : Int32) &&& 31) = Int32.ofNat bs.length := sb_shr0 _
  rw [e1]
  exact W.iret hx hb hr (fun t ht _ => ⟨rfl, ht⟩) (fun q hq => by cases hq) dJ0_length_8abf5_10

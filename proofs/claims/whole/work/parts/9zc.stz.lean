/-! ===== the start: what is made ===== -/
def rn : List (Nat × Nat × Nat × Int) → aM → aM
  | [], B => B
  | (o, n, k, v) :: l, B => match o with
    | 0 => aup (rn l B) n k v
    | 1 => fun a b => if a = n then 0 else rn l B a b
    | 2 => fun a b => if a = n then (if aft k b = 2 then -1 else 0) else rn l B a b
    | _ => fun a b => if a = n then -1 else rn l B a b
def zlk : List (Nat × Nat × Nat × Int) → Nat → Nat → Option Int
  | [], _, _ => none
  | (o, n, k, v) :: l, a, b => match o with
    | 0 => if a = n ∧ b = k then some v else zlk l a b
    | 1 => if a = n then some 0 else zlk l a b
    | 2 => if a = n then some (if aft k b = 2 then -1 else 0) else zlk l a b
    | _ => if a = n then some (-1) else zlk l a b
theorem zlk_ok {l : List (Nat × Nat × Nat × Int)} {B : aM} {a b : Nat} {v : Int} (h : zlk l a b = some v) : rn l B a b = v := by
  induction l with
  | nil => cases h
  | cons q l ih =>
    obtain ⟨o, n, k, x⟩ := q
    match o with
    | 0 =>
      show aup (rn l B) n k x a b = v
      have h : (if a = n ∧ b = k then some x else zlk l a b) = some v := h
      unfold aup
      by_cases c : a = n ∧ b = k
      · rw [if_pos c] at h ⊢; exact Option.some.inj h
      · rw [if_neg c] at h ⊢; exact ih h
    | 1 =>
      show (if a = n then 0 else rn l B a b) = v
      have h : (if a = n then some 0 else zlk l a b) = some v := h
      by_cases c : a = n
      · rw [if_pos c] at h ⊢; exact Option.some.inj h
      · rw [if_neg c] at h ⊢; exact ih h
    | 2 =>
      show (if a = n then (if aft k b = 2 then -1 else 0) else rn l B a b) = v
      have h : (if a = n then some (if aft k b = 2 then -1 else 0) else zlk l a b) = some v := h
      by_cases c : a = n
      · rw [if_pos c] at h ⊢; exact Option.some.inj h
      · rw [if_neg c] at h ⊢; exact ih h
    | _ + 3 =>
      show (if a = n then -1 else rn l B a b) = v
      have h : (if a = n then some (-1) else zlk l a b) = some v := h
      by_cases c : a = n
      · rw [if_pos c] at h ⊢; exact Option.some.inj h
      · rw [if_neg c] at h ⊢; exact ih h
/-- cells that are none of the made ones -/
theorem rn_far {l : List (Nat × Nat × Nat × Int)} {B : aM} {a : Nat} (h : l.all (fun q => decide (q.2.1 < 154)) = true) (ha : 154 ≤ a) : rn l B a = B a := by
  induction l with
  | nil => rfl
  | cons q l ih =>
    obtain ⟨o, n, k, x⟩ := q
    rw [List.all_cons, Bool.and_eq_true] at h
    have hn : n < 154 := of_decide_eq_true h.1
    match o with
    | 0 =>
      show aup (rn l B) n k x a = B a
      rw [aup_nc (by omega)]; exact ih h.2
    | 1 => funext b; exact (if_neg (by omega)).trans (congrFun (ih h.2) b)
    | 2 => funext b; exact (if_neg (by omega)).trans (congrFun (ih h.2) b)
    | _ + 3 => funext b; exact (if_neg (by omega)).trans (congrFun (ih h.2) b)
section Zrw
variable {d j pc : Nat} {ops : List aO} {L S : List aV} {M M1 : aM} {T T1 : T3} {Q : Option aV → aS → Prop} {ra rb rc : Nat}
theorem y_top {t : Nat} {v0 v : Int} {σ : aS} (h : v0 = v) (K : Wp d j pc ops L ((t, v) :: S) σ Q) : Wp d j pc ops L ((t, v0) :: S) σ Q := by rw [h]; exact K
theorem z_put {i n ci k len t : Nat} {v : Int} (ha : ash n = (ci, len)) (hl : n < T.1) (ht : t = aft ci k) (hM : M1 = aup M n k v) (K : Wp d j (pc + 3) ops L S (M1, T) Q) : Wp d j pc ((.putfield i, 3, ci, k, rc) :: ops) L ((t, v) :: (2, ((n : Nat) : Int)) :: S) (M, T) Q := by
  subst hM
  exact y_put ha hl ht K
theorem z_iastore {n len : Nat} {i v : Int} (ha : ash n = (100, len)) (hl : n < T.1) (hi : 0 ≤ i ∧ i < len) (hM : M1 = aup M n i.toNat v) (K : Wp d j (pc + 1) ops L S (M1, T) Q) : Wp d j pc ((.iastore, 1, ra, rb, rc) :: ops) L ((0, v) :: (0, i) :: (2, ((n : Nat) : Int)) :: S) (M, T) Q := by
  subst hM
  exact y_iast ha hl hi K
theorem z_lastore {n len : Nat} {i v : Int} (ha : ash n = (102, len)) (hl : n < T.1) (hi : 0 ≤ i ∧ i < len) (hM : M1 = aup M n i.toNat v) (K : Wp d j (pc + 1) ops L S (M1, T) Q) : Wp d j pc ((.lastore, 1, ra, rb, rc) :: ops) L ((1, v) :: (0, i) :: (2, ((n : Nat) : Int)) :: S) (M, T) Q := by
  subst hM
  exact y_last ha hl hi K
theorem z_aastore {n len m l2 : Nat} {i : Int} (ha : ash n = (103, len)) (hl : n < T.1) (hi : 0 ≤ i ∧ i < len) (hm : ash m = (8, l2)) (hl2 : m < T.1) (hM : M1 = aup M n i.toNat ((m : Nat) : Int)) (K : Wp d j (pc + 1) ops L S (M1, T) Q) : Wp d j pc ((.aastore, 1, ra, rb, rc) :: ops) L ((2, ((m : Nat) : Int)) :: (0, i) :: (2, ((n : Nat) : Int)) :: S) (M, T) Q := by
  subst hM
  refine wp_aastore ⟨⟨Int.natCast_nonneg n, ?_, hl⟩, hi.1, ?_, Int.natCast_nonneg m, ?_, hl2⟩ K
  · show (ash n).1 = 103
    rw [ha]
  · show i.toNat < (ash n).2
    rw [ha]
    show i.toNat < len
    omega
  · show (ash m).1 = 8
    rw [hm]
theorem z_newarray {n kind : Nat} {v : Int} {x : ArrayType} (hc : ash T.1 = (kind, n)) (hk : kind = 100 ∨ kind = 101 ∨ kind = 102) (hl : T.1 < 1000000) (hn : n < 1000) (hv : v = (n : Int)) (hM : M1 = fun a b => if a = T.1 then 0 else M a b) (hT : T1 = (T.1 + 1, T.2.1 + 1, T.2.2 + n)) (K : Wp d j (pc + 2) ops L ((2, ((T.1 : Nat) : Int)) :: S) (M1, T1) Q) : Wp d j pc ((.newarray x, 2, kind, rb, rc) :: ops) L ((0, v) :: S) (M, T) Q := by
  subst hM hT hv
  refine wp_ast rfl ?_ K
  delta ast
  refine if_pos ⟨Int.natCast_nonneg n, by omega, ?_, hk, hl⟩
  rw [Int.toNat_natCast]
  exact hc
theorem z_anewarray {n i : Nat} {v : Int} (hc : ash T.1 = (103, n)) (hl : T.1 < 1000000) (hn : n < 1000) (hv : v = (n : Int)) (hM : M1 = fun a b => if a = T.1 then -1 else M a b) (hT : T1 = (T.1 + 1, T.2.1 + 1, T.2.2 + n)) (K : Wp d j (pc + 3) ops L ((2, ((T.1 : Nat) : Int)) :: S) (M1, T1) Q) : Wp d j pc ((.anewarray i, 3, ra, rb, rc) :: ops) L ((0, v) :: S) (M, T) Q := by
  subst hM hT hv
  refine wp_ast rfl ?_ K
  delta ast
  refine if_pos ⟨Int.natCast_nonneg n, by omega, ?_, hl⟩
  rw [Int.toNat_natCast]
  exact hc
theorem y_callM {o : aO} {as S0 S1 : List aV} {r1 : Option aV} {d1 : Nat} (hk : akd o = 2) (hM : Ms d1 o.2.2.1 as (M, T) r1 (M1, T1)) (h7 : ∀ x, r1 ≠ some (7, x)) (hl : as.length = anA o) (hw : awd S1 ≤ 8) (hR : aRc mK o (as.reverse ++ S1) (M, T) = true) (hL : (as.flatMap (fun v => if v.1 = 1 then [v, (9, 0)] else [v])).length ≤ mL o.2.2.1) (hS : S0 = as.reverse ++ S1) (K : Wp (d1 + 1) j (pc + 3) ops L (r1.toList ++ S1) (M1, T1) Q) : Wp (d1 + 1) j pc (o :: ops) L S0 (M, T) Q := by
  subst hS
  have e1 : (as.reverse ++ S1).drop (anA o) = S1 := by rw [← hl, ← List.length_reverse, List.drop_left]
  have e2 : ((as.reverse ++ S1).take (anA o)).reverse = as := by rw [← hl, ← List.length_reverse, List.take_left, List.reverse_reverse]
  refine wp_call hk (r1 := r1) (σ1 := (M1, T1)) ?_ h7 (call_cond hl hw hR hL) ?_
  · rw [e2]; exact hM
  · rw [e1]; exact K
end Zrw
theorem aB_X0_init : ∀ pc, aB 0 pc = fnd bk_X0_init pc := fun _ => rfl
theorem aB_X1_init : ∀ pc, aB 7 pc = fnd bk_X1_init pc := fun _ => rfl
theorem aB_X2_init : ∀ pc, aB 24 pc = fnd bk_X2_init pc := fun _ => rfl
theorem aB_X3_init : ∀ pc, aB 34 pc = fnd bk_X3_init pc := fun _ => rfl
theorem aB_X4_init : ∀ pc, aB 41 pc = fnd bk_X4_init pc := fun _ => rfl
theorem aB_X5_init : ∀ pc, aB 47 pc = fnd bk_X5_init pc := fun _ => rfl
theorem aB_X6_init : ∀ pc, aB 61 pc = fnd bk_X6_init pc := fun _ => rfl
theorem aB_X7_init : ∀ pc, aB 67 pc = fnd bk_X7_init pc := fun _ => rfl
theorem aB_X8_init : ∀ pc, aB 92 pc = fnd bk_X8_init pc := fun _ => rfl
theorem aB_X9_init : ∀ pc, aB 96 pc = fnd bk_X9_init pc := fun _ => rfl
theorem aB_X10_init : ∀ pc, aB 105 pc = fnd bk_X10_init pc := fun _ => rfl
theorem aB_X11_init : ∀ pc, aB 113 pc = fnd bk_X11_init pc := fun _ => rfl
theorem aB_X13_init : ∀ pc, aB 195 pc = fnd bk_X13_init pc := fun _ => rfl
def zl0 : List (Nat × Nat × Nat × Int) := []
def zl1 : List (Nat × Nat × Nat × Int) := (2, 0, 11, 0) :: zl0
def zl2 : List (Nat × Nat × Nat × Int) := (1, 1, 0, 0) :: zl1
def zl3 : List (Nat × Nat × Nat × Int) := (0, 0, 0, 1) :: zl2
def zl4 : List (Nat × Nat × Nat × Int) := (2, 2, 10, 0) :: zl3
def zl5 : List (Nat × Nat × Nat × Int) := (1, 3, 0, 0) :: zl4
def zl6 : List (Nat × Nat × Nat × Int) := (0, 2, 3, 3) :: zl5
def zl7 : List (Nat × Nat × Nat × Int) := (1, 4, 0, 0) :: zl6
def zl8 : List (Nat × Nat × Nat × Int) := (0, 2, 5, 4) :: zl7
def zl9 : List (Nat × Nat × Nat × Int) := (1, 5, 0, 0) :: zl8
def zl10 : List (Nat × Nat × Nat × Int) := (0, 2, 6, 5) :: zl9
def zl11 : List (Nat × Nat × Nat × Int) := (1, 6, 0, 0) :: zl10
def zl12 : List (Nat × Nat × Nat × Int) := (0, 2, 7, 6) :: zl11
def zl13 : List (Nat × Nat × Nat × Int) := (1, 7, 0, 0) :: zl12
def zl14 : List (Nat × Nat × Nat × Int) := (0, 2, 8, 7) :: zl13
def zl15 : List (Nat × Nat × Nat × Int) := (1, 8, 0, 0) :: zl14
def zl16 : List (Nat × Nat × Nat × Int) := (0, 2, 10, 8) :: zl15
def zl17 : List (Nat × Nat × Nat × Int) := (1, 9, 0, 0) :: zl16
def zl18 : List (Nat × Nat × Nat × Int) := (0, 2, 11, 9) :: zl17
def zl19 : List (Nat × Nat × Nat × Int) := (1, 10, 0, 0) :: zl18
def zl20 : List (Nat × Nat × Nat × Int) := (0, 2, 12, 10) :: zl19
def zl21 : List (Nat × Nat × Nat × Int) := (1, 11, 0, 0) :: zl20
def zl22 : List (Nat × Nat × Nat × Int) := (0, 2, 13, 11) :: zl21
def zl23 : List (Nat × Nat × Nat × Int) := (1, 12, 0, 0) :: zl22
def zl24 : List (Nat × Nat × Nat × Int) := (0, 2, 14, 12) :: zl23
def zl25 : List (Nat × Nat × Nat × Int) := (1, 13, 0, 0) :: zl24
def zl26 : List (Nat × Nat × Nat × Int) := (0, 2, 15, 13) :: zl25
def zl27 : List (Nat × Nat × Nat × Int) := (1, 14, 0, 0) :: zl26
def zl28 : List (Nat × Nat × Nat × Int) := (0, 2, 16, 14) :: zl27
def zl29 : List (Nat × Nat × Nat × Int) := (1, 15, 0, 0) :: zl28
def zl30 : List (Nat × Nat × Nat × Int) := (0, 2, 17, 15) :: zl29
def zl31 : List (Nat × Nat × Nat × Int) := (0, 0, 2, 2) :: zl30
def zl32 : List (Nat × Nat × Nat × Int) := (2, 16, 7, 0) :: zl31
def zl33 : List (Nat × Nat × Nat × Int) := (2, 17, 10, 0) :: zl32
def zl34 : List (Nat × Nat × Nat × Int) := (1, 18, 0, 0) :: zl33
def zl35 : List (Nat × Nat × Nat × Int) := (0, 17, 3, 18) :: zl34
def zl36 : List (Nat × Nat × Nat × Int) := (1, 19, 0, 0) :: zl35
def zl37 : List (Nat × Nat × Nat × Int) := (0, 17, 5, 19) :: zl36
def zl38 : List (Nat × Nat × Nat × Int) := (1, 20, 0, 0) :: zl37
def zl39 : List (Nat × Nat × Nat × Int) := (0, 17, 6, 20) :: zl38
def zl40 : List (Nat × Nat × Nat × Int) := (1, 21, 0, 0) :: zl39
def zl41 : List (Nat × Nat × Nat × Int) := (0, 17, 7, 21) :: zl40
def zl42 : List (Nat × Nat × Nat × Int) := (1, 22, 0, 0) :: zl41
def zl43 : List (Nat × Nat × Nat × Int) := (0, 17, 8, 22) :: zl42
def zl44 : List (Nat × Nat × Nat × Int) := (1, 23, 0, 0) :: zl43
def zl45 : List (Nat × Nat × Nat × Int) := (0, 17, 10, 23) :: zl44
def zl46 : List (Nat × Nat × Nat × Int) := (1, 24, 0, 0) :: zl45
def zl47 : List (Nat × Nat × Nat × Int) := (0, 17, 11, 24) :: zl46
def zl48 : List (Nat × Nat × Nat × Int) := (1, 25, 0, 0) :: zl47
def zl49 : List (Nat × Nat × Nat × Int) := (0, 17, 12, 25) :: zl48
def zl50 : List (Nat × Nat × Nat × Int) := (1, 26, 0, 0) :: zl49
def zl51 : List (Nat × Nat × Nat × Int) := (0, 17, 13, 26) :: zl50
def zl52 : List (Nat × Nat × Nat × Int) := (1, 27, 0, 0) :: zl51
def zl53 : List (Nat × Nat × Nat × Int) := (0, 17, 14, 27) :: zl52
def zl54 : List (Nat × Nat × Nat × Int) := (1, 28, 0, 0) :: zl53
def zl55 : List (Nat × Nat × Nat × Int) := (0, 17, 15, 28) :: zl54
def zl56 : List (Nat × Nat × Nat × Int) := (1, 29, 0, 0) :: zl55
def zl57 : List (Nat × Nat × Nat × Int) := (0, 17, 16, 29) :: zl56
def zl58 : List (Nat × Nat × Nat × Int) := (1, 30, 0, 0) :: zl57
def zl59 : List (Nat × Nat × Nat × Int) := (0, 17, 17, 30) :: zl58
def zl60 : List (Nat × Nat × Nat × Int) := (0, 16, 0, 17) :: zl59
def zl61 : List (Nat × Nat × Nat × Int) := (1, 31, 0, 0) :: zl60
def zl62 : List (Nat × Nat × Nat × Int) := (0, 16, 4, 31) :: zl61
def zl63 : List (Nat × Nat × Nat × Int) := (1, 32, 0, 0) :: zl62
def zl64 : List (Nat × Nat × Nat × Int) := (0, 16, 5, 32) :: zl63
def zl65 : List (Nat × Nat × Nat × Int) := (1, 33, 0, 0) :: zl64
def zl66 : List (Nat × Nat × Nat × Int) := (0, 16, 6, 33) :: zl65
def zl67 : List (Nat × Nat × Nat × Int) := (2, 34, 9, 0) :: zl66
def zl68 : List (Nat × Nat × Nat × Int) := (0, 34, 0, 1) :: zl67
def zl69 : List (Nat × Nat × Nat × Int) := (0, 16, 3, 34) :: zl68
def zl70 : List (Nat × Nat × Nat × Int) := (0, 31, 0, 759180) :: zl69
def zl71 : List (Nat × Nat × Nat × Int) := (0, 32, 0, (-1)) :: zl70
def zl72 : List (Nat × Nat × Nat × Int) := (0, 31, 1, 100037) :: zl71
def zl73 : List (Nat × Nat × Nat × Int) := (0, 32, 1, (-1)) :: zl72
def zl74 : List (Nat × Nat × Nat × Int) := (0, 31, 2, 23609) :: zl73
def zl75 : List (Nat × Nat × Nat × Int) := (0, 32, 2, (-1)) :: zl74
def zl76 : List (Nat × Nat × Nat × Int) := (0, 31, 3, 23569509) :: zl75
def zl77 : List (Nat × Nat × Nat × Int) := (0, 32, 3, (-1)) :: zl76
def zl78 : List (Nat × Nat × Nat × Int) := (0, 31, 4, 212363) :: zl77
def zl79 : List (Nat × Nat × Nat × Int) := (0, 32, 4, (-1)) :: zl78
def zl80 : List (Nat × Nat × Nat × Int) := (0, 31, 5, 167183) :: zl79
def zl81 : List (Nat × Nat × Nat × Int) := (0, 32, 5, (-1)) :: zl80
def zl82 : List (Nat × Nat × Nat × Int) := (0, 31, 6, 719967813) :: zl81
def zl83 : List (Nat × Nat × Nat × Int) := (0, 32, 6, (-1)) :: zl82
def zl84 : List (Nat × Nat × Nat × Int) := (0, 31, 7, 656779) :: zl83
def zl85 : List (Nat × Nat × Nat × Int) := (0, 32, 7, (-1)) :: zl84
def zl86 : List (Nat × Nat × Nat × Int) := (0, 0, 3, 16) :: zl85
def zl87 : List (Nat × Nat × Nat × Int) := (2, 35, 8, 0) :: zl86
def zl88 : List (Nat × Nat × Nat × Int) := (1, 36, 0, 0) :: zl87
def zl89 : List (Nat × Nat × Nat × Int) := (0, 35, 0, 36) :: zl88
def zl90 : List (Nat × Nat × Nat × Int) := (1, 37, 0, 0) :: zl89
def zl91 : List (Nat × Nat × Nat × Int) := (0, 35, 1, 37) :: zl90
def zl92 : List (Nat × Nat × Nat × Int) := (1, 38, 0, 0) :: zl91
def zl93 : List (Nat × Nat × Nat × Int) := (0, 35, 2, 38) :: zl92
def zl94 : List (Nat × Nat × Nat × Int) := (0, 0, 4, 35) :: zl93
def zl95 : List (Nat × Nat × Nat × Int) := (2, 39, 5, 0) :: zl94
def zl96 : List (Nat × Nat × Nat × Int) := (1, 40, 0, 0) :: zl95
def zl97 : List (Nat × Nat × Nat × Int) := (0, 39, 1, 40) :: zl96
def zl98 : List (Nat × Nat × Nat × Int) := (1, 41, 0, 0) :: zl97
def zl99 : List (Nat × Nat × Nat × Int) := (0, 39, 2, 41) :: zl98
def zl100 : List (Nat × Nat × Nat × Int) := (0, 39, 0, 2) :: zl99
def zl101 : List (Nat × Nat × Nat × Int) := (0, 0, 5, 39) :: zl100
def zl102 : List (Nat × Nat × Nat × Int) := (2, 42, 5, 0) :: zl101
def zl103 : List (Nat × Nat × Nat × Int) := (1, 43, 0, 0) :: zl102
def zl104 : List (Nat × Nat × Nat × Int) := (0, 42, 1, 43) :: zl103
def zl105 : List (Nat × Nat × Nat × Int) := (1, 44, 0, 0) :: zl104
def zl106 : List (Nat × Nat × Nat × Int) := (0, 42, 2, 44) :: zl105
def zl107 : List (Nat × Nat × Nat × Int) := (0, 42, 0, 2) :: zl106
def zl108 : List (Nat × Nat × Nat × Int) := (0, 0, 6, 42) :: zl107
def zl109 : List (Nat × Nat × Nat × Int) := (2, 45, 5, 0) :: zl108
def zl110 : List (Nat × Nat × Nat × Int) := (1, 46, 0, 0) :: zl109
def zl111 : List (Nat × Nat × Nat × Int) := (0, 45, 1, 46) :: zl110
def zl112 : List (Nat × Nat × Nat × Int) := (1, 47, 0, 0) :: zl111
def zl113 : List (Nat × Nat × Nat × Int) := (0, 45, 2, 47) :: zl112
def zl114 : List (Nat × Nat × Nat × Int) := (0, 45, 0, 2) :: zl113
def zl115 : List (Nat × Nat × Nat × Int) := (0, 0, 7, 45) :: zl114
def zl116 : List (Nat × Nat × Nat × Int) := (2, 48, 1, 0) :: zl115
def zl117 : List (Nat × Nat × Nat × Int) := (1, 49, 0, 0) :: zl116
def zl118 : List (Nat × Nat × Nat × Int) := (0, 48, 3, 49) :: zl117
def zl119 : List (Nat × Nat × Nat × Int) := (1, 50, 0, 0) :: zl118
def zl120 : List (Nat × Nat × Nat × Int) := (0, 48, 4, 50) :: zl119
def zl121 : List (Nat × Nat × Nat × Int) := (1, 51, 0, 0) :: zl120
def zl122 : List (Nat × Nat × Nat × Int) := (0, 48, 5, 51) :: zl121
def zl123 : List (Nat × Nat × Nat × Int) := (0, 48, 0, 2) :: zl122
def zl124 : List (Nat × Nat × Nat × Int) := (0, 48, 1, 35) :: zl123
def zl125 : List (Nat × Nat × Nat × Int) := (0, 48, 2, 39) :: zl124
def zl126 : List (Nat × Nat × Nat × Int) := (0, 0, 8, 48) :: zl125
def zl127 : List (Nat × Nat × Nat × Int) := (2, 52, 2, 0) :: zl126
def zl128 : List (Nat × Nat × Nat × Int) := (0, 52, 0, 2) :: zl127
def zl129 : List (Nat × Nat × Nat × Int) := (0, 52, 1, 42) :: zl128
def zl130 : List (Nat × Nat × Nat × Int) := (0, 0, 9, 52) :: zl129
def zl131 : List (Nat × Nat × Nat × Int) := (2, 53, 6, 0) :: zl130
def zl132 : List (Nat × Nat × Nat × Int) := (0, 53, 0, 2) :: zl131
def zl133 : List (Nat × Nat × Nat × Int) := (0, 53, 1, 45) :: zl132
def zl134 : List (Nat × Nat × Nat × Int) := (0, 0, 10, 53) :: zl133
def zl135 : List (Nat × Nat × Nat × Int) := (2, 54, 3, 0) :: zl134
def zl136 : List (Nat × Nat × Nat × Int) := (1, 55, 0, 0) :: zl135
def zl137 : List (Nat × Nat × Nat × Int) := (0, 54, 2, 55) :: zl136
def zl138 : List (Nat × Nat × Nat × Int) := (1, 56, 0, 0) :: zl137
def zl139 : List (Nat × Nat × Nat × Int) := (0, 54, 3, 56) :: zl138
def zl140 : List (Nat × Nat × Nat × Int) := (1, 57, 0, 0) :: zl139
def zl141 : List (Nat × Nat × Nat × Int) := (0, 54, 4, 57) :: zl140
def zl142 : List (Nat × Nat × Nat × Int) := (0, 54, 0, 2) :: zl141
def zl143 : List (Nat × Nat × Nat × Int) := (0, 54, 1, 39) :: zl142
def zl144 : List (Nat × Nat × Nat × Int) := (0, 0, 11, 54) :: zl143
def zl145 : List (Nat × Nat × Nat × Int) := (2, 58, 0, 0) :: zl144
def zl146 : List (Nat × Nat × Nat × Int) := (0, 58, 0, 2) :: zl145
def zl147 : List (Nat × Nat × Nat × Int) := (0, 58, 1, 35) :: zl146
def zl148 : List (Nat × Nat × Nat × Int) := (0, 58, 2, 45) :: zl147
def zl149 : List (Nat × Nat × Nat × Int) := (0, 0, 12, 58) :: zl148
def zl150 : List (Nat × Nat × Nat × Int) := (2, 59, 4, 0) :: zl149
def zl151 : List (Nat × Nat × Nat × Int) := (3, 60, 0, 0) :: zl150
def zl152 : List (Nat × Nat × Nat × Int) := (0, 59, 0, 60) :: zl151
def zl153 : List (Nat × Nat × Nat × Int) := (3, 61, 0, 0) :: zl152
def zl154 : List (Nat × Nat × Nat × Int) := (0, 59, 1, 61) :: zl153
def zl155 : List (Nat × Nat × Nat × Int) := (2, 62, 8, 0) :: zl154
def zl156 : List (Nat × Nat × Nat × Int) := (1, 63, 0, 0) :: zl155
def zl157 : List (Nat × Nat × Nat × Int) := (0, 62, 0, 63) :: zl156
def zl158 : List (Nat × Nat × Nat × Int) := (1, 64, 0, 0) :: zl157
def zl159 : List (Nat × Nat × Nat × Int) := (0, 62, 1, 64) :: zl158
def zl160 : List (Nat × Nat × Nat × Int) := (1, 65, 0, 0) :: zl159
def zl161 : List (Nat × Nat × Nat × Int) := (0, 62, 2, 65) :: zl160
def zl162 : List (Nat × Nat × Nat × Int) := (0, 60, 0, 62) :: zl161
def zl163 : List (Nat × Nat × Nat × Int) := (2, 66, 8, 0) :: zl162
def zl164 : List (Nat × Nat × Nat × Int) := (1, 67, 0, 0) :: zl163
def zl165 : List (Nat × Nat × Nat × Int) := (0, 66, 0, 67) :: zl164
def zl166 : List (Nat × Nat × Nat × Int) := (1, 68, 0, 0) :: zl165
def zl167 : List (Nat × Nat × Nat × Int) := (0, 66, 1, 68) :: zl166
def zl168 : List (Nat × Nat × Nat × Int) := (1, 69, 0, 0) :: zl167
def zl169 : List (Nat × Nat × Nat × Int) := (0, 66, 2, 69) :: zl168
def zl170 : List (Nat × Nat × Nat × Int) := (0, 60, 1, 66) :: zl169
def zl171 : List (Nat × Nat × Nat × Int) := (2, 70, 8, 0) :: zl170
def zl172 : List (Nat × Nat × Nat × Int) := (1, 71, 0, 0) :: zl171
def zl173 : List (Nat × Nat × Nat × Int) := (0, 70, 0, 71) :: zl172
def zl174 : List (Nat × Nat × Nat × Int) := (1, 72, 0, 0) :: zl173
def zl175 : List (Nat × Nat × Nat × Int) := (0, 70, 1, 72) :: zl174
def zl176 : List (Nat × Nat × Nat × Int) := (1, 73, 0, 0) :: zl175
def zl177 : List (Nat × Nat × Nat × Int) := (0, 70, 2, 73) :: zl176
def zl178 : List (Nat × Nat × Nat × Int) := (0, 60, 2, 70) :: zl177
def zl179 : List (Nat × Nat × Nat × Int) := (2, 74, 8, 0) :: zl178
def zl180 : List (Nat × Nat × Nat × Int) := (1, 75, 0, 0) :: zl179
def zl181 : List (Nat × Nat × Nat × Int) := (0, 74, 0, 75) :: zl180
def zl182 : List (Nat × Nat × Nat × Int) := (1, 76, 0, 0) :: zl181
def zl183 : List (Nat × Nat × Nat × Int) := (0, 74, 1, 76) :: zl182
def zl184 : List (Nat × Nat × Nat × Int) := (1, 77, 0, 0) :: zl183
def zl185 : List (Nat × Nat × Nat × Int) := (0, 74, 2, 77) :: zl184
def zl186 : List (Nat × Nat × Nat × Int) := (0, 60, 3, 74) :: zl185
def zl187 : List (Nat × Nat × Nat × Int) := (2, 78, 8, 0) :: zl186
def zl188 : List (Nat × Nat × Nat × Int) := (1, 79, 0, 0) :: zl187
def zl189 : List (Nat × Nat × Nat × Int) := (0, 78, 0, 79) :: zl188
def zl190 : List (Nat × Nat × Nat × Int) := (1, 80, 0, 0) :: zl189
def zl191 : List (Nat × Nat × Nat × Int) := (0, 78, 1, 80) :: zl190
def zl192 : List (Nat × Nat × Nat × Int) := (1, 81, 0, 0) :: zl191
def zl193 : List (Nat × Nat × Nat × Int) := (0, 78, 2, 81) :: zl192
def zl194 : List (Nat × Nat × Nat × Int) := (0, 60, 4, 78) :: zl193
def zl195 : List (Nat × Nat × Nat × Int) := (2, 82, 8, 0) :: zl194
def zl196 : List (Nat × Nat × Nat × Int) := (1, 83, 0, 0) :: zl195
def zl197 : List (Nat × Nat × Nat × Int) := (0, 82, 0, 83) :: zl196
def zl198 : List (Nat × Nat × Nat × Int) := (1, 84, 0, 0) :: zl197
def zl199 : List (Nat × Nat × Nat × Int) := (0, 82, 1, 84) :: zl198
def zl200 : List (Nat × Nat × Nat × Int) := (1, 85, 0, 0) :: zl199
def zl201 : List (Nat × Nat × Nat × Int) := (0, 82, 2, 85) :: zl200
def zl202 : List (Nat × Nat × Nat × Int) := (0, 60, 5, 82) :: zl201
def zl203 : List (Nat × Nat × Nat × Int) := (2, 86, 8, 0) :: zl202
def zl204 : List (Nat × Nat × Nat × Int) := (1, 87, 0, 0) :: zl203
def zl205 : List (Nat × Nat × Nat × Int) := (0, 86, 0, 87) :: zl204
def zl206 : List (Nat × Nat × Nat × Int) := (1, 88, 0, 0) :: zl205
def zl207 : List (Nat × Nat × Nat × Int) := (0, 86, 1, 88) :: zl206
def zl208 : List (Nat × Nat × Nat × Int) := (1, 89, 0, 0) :: zl207
def zl209 : List (Nat × Nat × Nat × Int) := (0, 86, 2, 89) :: zl208
def zl210 : List (Nat × Nat × Nat × Int) := (0, 60, 6, 86) :: zl209
def zl211 : List (Nat × Nat × Nat × Int) := (2, 90, 8, 0) :: zl210
def zl212 : List (Nat × Nat × Nat × Int) := (1, 91, 0, 0) :: zl211
def zl213 : List (Nat × Nat × Nat × Int) := (0, 90, 0, 91) :: zl212
def zl214 : List (Nat × Nat × Nat × Int) := (1, 92, 0, 0) :: zl213
def zl215 : List (Nat × Nat × Nat × Int) := (0, 90, 1, 92) :: zl214
def zl216 : List (Nat × Nat × Nat × Int) := (1, 93, 0, 0) :: zl215
def zl217 : List (Nat × Nat × Nat × Int) := (0, 90, 2, 93) :: zl216
def zl218 : List (Nat × Nat × Nat × Int) := (0, 60, 7, 90) :: zl217
def zl219 : List (Nat × Nat × Nat × Int) := (2, 94, 8, 0) :: zl218
def zl220 : List (Nat × Nat × Nat × Int) := (1, 95, 0, 0) :: zl219
def zl221 : List (Nat × Nat × Nat × Int) := (0, 94, 0, 95) :: zl220
def zl222 : List (Nat × Nat × Nat × Int) := (1, 96, 0, 0) :: zl221
def zl223 : List (Nat × Nat × Nat × Int) := (0, 94, 1, 96) :: zl222
def zl224 : List (Nat × Nat × Nat × Int) := (1, 97, 0, 0) :: zl223
def zl225 : List (Nat × Nat × Nat × Int) := (0, 94, 2, 97) :: zl224
def zl226 : List (Nat × Nat × Nat × Int) := (0, 60, 8, 94) :: zl225
def zl227 : List (Nat × Nat × Nat × Int) := (2, 98, 8, 0) :: zl226
def zl228 : List (Nat × Nat × Nat × Int) := (1, 99, 0, 0) :: zl227
def zl229 : List (Nat × Nat × Nat × Int) := (0, 98, 0, 99) :: zl228
def zl230 : List (Nat × Nat × Nat × Int) := (1, 100, 0, 0) :: zl229
def zl231 : List (Nat × Nat × Nat × Int) := (0, 98, 1, 100) :: zl230
def zl232 : List (Nat × Nat × Nat × Int) := (1, 101, 0, 0) :: zl231
def zl233 : List (Nat × Nat × Nat × Int) := (0, 98, 2, 101) :: zl232
def zl234 : List (Nat × Nat × Nat × Int) := (0, 60, 9, 98) :: zl233
def zl235 : List (Nat × Nat × Nat × Int) := (2, 102, 8, 0) :: zl234
def zl236 : List (Nat × Nat × Nat × Int) := (1, 103, 0, 0) :: zl235
def zl237 : List (Nat × Nat × Nat × Int) := (0, 102, 0, 103) :: zl236
def zl238 : List (Nat × Nat × Nat × Int) := (1, 104, 0, 0) :: zl237
def zl239 : List (Nat × Nat × Nat × Int) := (0, 102, 1, 104) :: zl238
def zl240 : List (Nat × Nat × Nat × Int) := (1, 105, 0, 0) :: zl239
def zl241 : List (Nat × Nat × Nat × Int) := (0, 102, 2, 105) :: zl240
def zl242 : List (Nat × Nat × Nat × Int) := (0, 60, 10, 102) :: zl241
def zl243 : List (Nat × Nat × Nat × Int) := (2, 106, 8, 0) :: zl242
def zl244 : List (Nat × Nat × Nat × Int) := (1, 107, 0, 0) :: zl243
def zl245 : List (Nat × Nat × Nat × Int) := (0, 106, 0, 107) :: zl244
def zl246 : List (Nat × Nat × Nat × Int) := (1, 108, 0, 0) :: zl245
def zl247 : List (Nat × Nat × Nat × Int) := (0, 106, 1, 108) :: zl246
def zl248 : List (Nat × Nat × Nat × Int) := (1, 109, 0, 0) :: zl247
def zl249 : List (Nat × Nat × Nat × Int) := (0, 106, 2, 109) :: zl248
def zl250 : List (Nat × Nat × Nat × Int) := (0, 60, 11, 106) :: zl249
def zl251 : List (Nat × Nat × Nat × Int) := (2, 110, 8, 0) :: zl250
def zl252 : List (Nat × Nat × Nat × Int) := (1, 111, 0, 0) :: zl251
def zl253 : List (Nat × Nat × Nat × Int) := (0, 110, 0, 111) :: zl252
def zl254 : List (Nat × Nat × Nat × Int) := (1, 112, 0, 0) :: zl253
def zl255 : List (Nat × Nat × Nat × Int) := (0, 110, 1, 112) :: zl254
def zl256 : List (Nat × Nat × Nat × Int) := (1, 113, 0, 0) :: zl255
def zl257 : List (Nat × Nat × Nat × Int) := (0, 110, 2, 113) :: zl256
def zl258 : List (Nat × Nat × Nat × Int) := (0, 60, 12, 110) :: zl257
def zl259 : List (Nat × Nat × Nat × Int) := (2, 114, 8, 0) :: zl258
def zl260 : List (Nat × Nat × Nat × Int) := (1, 115, 0, 0) :: zl259
def zl261 : List (Nat × Nat × Nat × Int) := (0, 114, 0, 115) :: zl260
def zl262 : List (Nat × Nat × Nat × Int) := (1, 116, 0, 0) :: zl261
def zl263 : List (Nat × Nat × Nat × Int) := (0, 114, 1, 116) :: zl262
def zl264 : List (Nat × Nat × Nat × Int) := (1, 117, 0, 0) :: zl263
def zl265 : List (Nat × Nat × Nat × Int) := (0, 114, 2, 117) :: zl264
def zl266 : List (Nat × Nat × Nat × Int) := (0, 60, 13, 114) :: zl265
def zl267 : List (Nat × Nat × Nat × Int) := (2, 118, 8, 0) :: zl266
def zl268 : List (Nat × Nat × Nat × Int) := (1, 119, 0, 0) :: zl267
def zl269 : List (Nat × Nat × Nat × Int) := (0, 118, 0, 119) :: zl268
def zl270 : List (Nat × Nat × Nat × Int) := (1, 120, 0, 0) :: zl269
def zl271 : List (Nat × Nat × Nat × Int) := (0, 118, 1, 120) :: zl270
def zl272 : List (Nat × Nat × Nat × Int) := (1, 121, 0, 0) :: zl271
def zl273 : List (Nat × Nat × Nat × Int) := (0, 118, 2, 121) :: zl272
def zl274 : List (Nat × Nat × Nat × Int) := (0, 60, 14, 118) :: zl273
def zl275 : List (Nat × Nat × Nat × Int) := (2, 122, 8, 0) :: zl274
def zl276 : List (Nat × Nat × Nat × Int) := (1, 123, 0, 0) :: zl275
def zl277 : List (Nat × Nat × Nat × Int) := (0, 122, 0, 123) :: zl276
def zl278 : List (Nat × Nat × Nat × Int) := (1, 124, 0, 0) :: zl277
def zl279 : List (Nat × Nat × Nat × Int) := (0, 122, 1, 124) :: zl278
def zl280 : List (Nat × Nat × Nat × Int) := (1, 125, 0, 0) :: zl279
def zl281 : List (Nat × Nat × Nat × Int) := (0, 122, 2, 125) :: zl280
def zl282 : List (Nat × Nat × Nat × Int) := (0, 60, 15, 122) :: zl281
def zl283 : List (Nat × Nat × Nat × Int) := (2, 126, 8, 0) :: zl282
def zl284 : List (Nat × Nat × Nat × Int) := (1, 127, 0, 0) :: zl283
def zl285 : List (Nat × Nat × Nat × Int) := (0, 126, 0, 127) :: zl284
def zl286 : List (Nat × Nat × Nat × Int) := (1, 128, 0, 0) :: zl285
def zl287 : List (Nat × Nat × Nat × Int) := (0, 126, 1, 128) :: zl286
def zl288 : List (Nat × Nat × Nat × Int) := (1, 129, 0, 0) :: zl287
def zl289 : List (Nat × Nat × Nat × Int) := (0, 126, 2, 129) :: zl288
def zl290 : List (Nat × Nat × Nat × Int) := (0, 61, 0, 126) :: zl289
def zl291 : List (Nat × Nat × Nat × Int) := (2, 130, 8, 0) :: zl290
def zl292 : List (Nat × Nat × Nat × Int) := (1, 131, 0, 0) :: zl291
def zl293 : List (Nat × Nat × Nat × Int) := (0, 130, 0, 131) :: zl292
def zl294 : List (Nat × Nat × Nat × Int) := (1, 132, 0, 0) :: zl293
def zl295 : List (Nat × Nat × Nat × Int) := (0, 130, 1, 132) :: zl294
def zl296 : List (Nat × Nat × Nat × Int) := (1, 133, 0, 0) :: zl295
def zl297 : List (Nat × Nat × Nat × Int) := (0, 130, 2, 133) :: zl296
def zl298 : List (Nat × Nat × Nat × Int) := (0, 61, 1, 130) :: zl297
def zl299 : List (Nat × Nat × Nat × Int) := (2, 134, 8, 0) :: zl298
def zl300 : List (Nat × Nat × Nat × Int) := (1, 135, 0, 0) :: zl299
def zl301 : List (Nat × Nat × Nat × Int) := (0, 134, 0, 135) :: zl300
def zl302 : List (Nat × Nat × Nat × Int) := (1, 136, 0, 0) :: zl301
def zl303 : List (Nat × Nat × Nat × Int) := (0, 134, 1, 136) :: zl302
def zl304 : List (Nat × Nat × Nat × Int) := (1, 137, 0, 0) :: zl303
def zl305 : List (Nat × Nat × Nat × Int) := (0, 134, 2, 137) :: zl304
def zl306 : List (Nat × Nat × Nat × Int) := (0, 61, 2, 134) :: zl305
def zl307 : List (Nat × Nat × Nat × Int) := (0, 0, 13, 59) :: zl306
def zl308 : List (Nat × Nat × Nat × Int) := (2, 138, 13, 0) :: zl307
def zl309 : List (Nat × Nat × Nat × Int) := (0, 138, 2, (-1)) :: zl308
def zl310 : List (Nat × Nat × Nat × Int) := (1, 139, 0, 0) :: zl309
def zl311 : List (Nat × Nat × Nat × Int) := (0, 138, 5, 139) :: zl310
def zl312 : List (Nat × Nat × Nat × Int) := (1, 140, 0, 0) :: zl311
def zl313 : List (Nat × Nat × Nat × Int) := (0, 138, 16, 140) :: zl312
def zl314 : List (Nat × Nat × Nat × Int) := (1, 141, 0, 0) :: zl313
def zl315 : List (Nat × Nat × Nat × Int) := (0, 138, 17, 141) :: zl314
def zl316 : List (Nat × Nat × Nat × Int) := (1, 142, 0, 0) :: zl315
def zl317 : List (Nat × Nat × Nat × Int) := (0, 138, 18, 142) :: zl316
def zl318 : List (Nat × Nat × Nat × Int) := (1, 143, 0, 0) :: zl317
def zl319 : List (Nat × Nat × Nat × Int) := (0, 138, 19, 143) :: zl318
def zl320 : List (Nat × Nat × Nat × Int) := (1, 144, 0, 0) :: zl319
def zl321 : List (Nat × Nat × Nat × Int) := (0, 138, 22, 144) :: zl320
def zl322 : List (Nat × Nat × Nat × Int) := (1, 145, 0, 0) :: zl321
def zl323 : List (Nat × Nat × Nat × Int) := (0, 138, 23, 145) :: zl322
def zl324 : List (Nat × Nat × Nat × Int) := (1, 146, 0, 0) :: zl323
def zl325 : List (Nat × Nat × Nat × Int) := (0, 138, 24, 146) :: zl324
def zl326 : List (Nat × Nat × Nat × Int) := (1, 147, 0, 0) :: zl325
def zl327 : List (Nat × Nat × Nat × Int) := (0, 138, 27, 147) :: zl326
def zl328 : List (Nat × Nat × Nat × Int) := (1, 148, 0, 0) :: zl327
def zl329 : List (Nat × Nat × Nat × Int) := (0, 138, 28, 148) :: zl328
def zl330 : List (Nat × Nat × Nat × Int) := (1, 149, 0, 0) :: zl329
def zl331 : List (Nat × Nat × Nat × Int) := (0, 138, 29, 149) :: zl330
def zl332 : List (Nat × Nat × Nat × Int) := (1, 150, 0, 0) :: zl331
def zl333 : List (Nat × Nat × Nat × Int) := (0, 138, 30, 150) :: zl332
def zl334 : List (Nat × Nat × Nat × Int) := (1, 151, 0, 0) :: zl333
def zl335 : List (Nat × Nat × Nat × Int) := (0, 138, 34, 151) :: zl334
def zl336 : List (Nat × Nat × Nat × Int) := (1, 152, 0, 0) :: zl335
def zl337 : List (Nat × Nat × Nat × Int) := (0, 138, 35, 152) :: zl336
def zl338 : List (Nat × Nat × Nat × Int) := (1, 153, 0, 0) :: zl337

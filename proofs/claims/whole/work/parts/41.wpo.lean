/-! ===== runs, told backward: Wp says of a place, locals, stack and store that the run from there ends, and Q holds of its answer and store ===== -/
def Wp (d j pc : Nat) (ops : List aO) (L S : List aV) (σ : aS) (Q : Option aV → aS → Prop) : Prop := ∃ n r σ1, exec aB mL mK 167 n d j pc ops L S σ = some (r, σ1) ∧ Q r σ1
/-- a method's run: of these values, at this store, it answers r and leaves σ1 -/
def Ms (d j : Nat) (as : List aV) (σ : aS) (r : Option aV) (σ1 : aS) : Prop := ∃ n, exec aB mL mK 167 n d j 0 [] (aent (mL j) as) [] σ = some (r, σ1)
theorem exec_add {n d j pc : Nat} {ops : List aO} {L S : List aV} {σ : aS} {x : Option aV × aS} (h : exec aB mL mK 167 n d j pc ops L S σ = some x) : ∀ k, exec aB mL mK 167 (n + k) d j pc ops L S σ = some x
  | 0 => h
  | k + 1 => exec_up aB mL mK 167 (n + k) _ _ _ _ _ _ _ _ (exec_add h k)
theorem Ms.of {d j : Nat} {as : List aV} {σ : aS} {r : Option aV} {σ1 : aS} (h : Wp d j 0 [] (aent (mL j) as) [] σ (fun r2 σ2 => r2 = r ∧ σ2 = σ1)) : Ms d j as σ r σ1 := by
  obtain ⟨n, r2, σ2, h, rfl, rfl⟩ := h
  exact ⟨n, h⟩
section Wps
variable {d j pc : Nat} {ops : List aO} {L S : List aV} {σ : aS} {Q : Option aV → aS → Prop} {ra rb rc : Nat}
theorem wp_blk {ops1 : List aO} (h : aB j pc = some ops1) (K : Wp d j pc ops1 L S σ Q) : Wp d j pc [] L S σ Q := by
  obtain ⟨n, r, σ1, h1, h2⟩ := K
  refine ⟨n + 1, r, σ1, ?_, h2⟩
  rw [exec, h]
  exact h1
theorem wp_ast {o : aO} {L1 S1 : List aV} {σ1 : aS} (hk : akd o = 0) (h : ast o d L S σ = some (L1, S1, σ1)) (K : Wp d j (pc + o.2.1) ops L1 S1 σ1 Q) : Wp d j pc (o :: ops) L S σ Q := by
  obtain ⟨n, r, σ2, h1, h2⟩ := K
  refine ⟨n + 1, r, σ2, ?_, h2⟩
  rw [exec_cons]; simp only [hk, h]
  exact h1
theorem wp_jt {o : aO} {t : Nat} {S1 : List aV} (hk : akd o = 1) (h : ajm o pc S = some (some t, S1)) (K : Wp d j t [] L S1 σ Q) : Wp d j pc (o :: ops) L S σ Q := by
  obtain ⟨n, r, σ2, h1, h2⟩ := K
  refine ⟨n + 1, r, σ2, ?_, h2⟩
  rw [exec_cons]; simp only [hk, h]
  exact h1
theorem wp_jf {o : aO} {S1 : List aV} (hk : akd o = 1) (h : ajm o pc S = some (none, S1)) (K : Wp d j (pc + o.2.1) ops L S1 σ Q) : Wp d j pc (o :: ops) L S σ Q := by
  obtain ⟨n, r, σ2, h1, h2⟩ := K
  refine ⟨n + 1, r, σ2, ?_, h2⟩
  rw [exec_cons]; simp only [hk, h]
  exact h1
theorem wp_call {o : aO} {r1 : Option aV} {σ1 : aS} (hk : akd o = 2) (hM : Ms d o.2.2.1 (S.take (anA o)).reverse σ r1 σ1) (h7 : ∀ x, r1 ≠ some (7, x)) (hc : awd (S.drop (anA o)) ≤ 8 ∧ anA o ≤ S.length ∧ aRc mK o S σ = true ∧ ((S.take (anA o)).reverse.flatMap (fun v => if v.1 = 1 then [v, (9, 0)] else [v])).length ≤ mL o.2.2.1) (K : Wp (d + 1) j (pc + 3) ops L (r1.toList ++ S.drop (anA o)) σ1 Q) : Wp (d + 1) j pc (o :: ops) L S σ Q := by
  obtain ⟨n1, hM⟩ := hM
  obtain ⟨n2, r, σ2, h1, h2⟩ := K
  refine ⟨n1 + n2 + 1, r, σ2, ?_, h2⟩
  rw [exec_cons]
  simp only [hk]
  rw [if_pos hc, exec_add hM n2]
  have h3 := exec_add h1 n1
  rw [Nat.add_comm n2 n1] at h3
  split
  · rename_i e; exact absurd (by cases e; rfl) (h7 _)
  · rename_i e; cases e; exact h3
  · rename_i e; cases e
theorem wp_ret {o : aO} {r : Option aV} (hk : akd o = 3) (h : art o S = some r) (hq : Q r σ) : Wp d j pc (o :: ops) L S σ Q := by
  refine ⟨1, r, σ, ?_, hq⟩
  rw [exec_cons]; simp only [hk, h]
theorem wp_aload_n {k : Fin 4} {v : Int} (h : aget L k.val 2 = some v) (h0 : 0 ≤ v) (K : Wp d j (pc + 1) ops L ((2, v) :: S) σ Q) : Wp d j pc ((.aload_n k, 1, ra, rb, rc) :: ops) L S σ Q := wp_ast rfl (by delta ast; dsimp only; rw [h]; dsimp only; rw [if_pos h0]) K
theorem wp_aload {k : Nat} {v : Int} (h : aget L k 2 = some v) (h0 : 0 ≤ v) (K : Wp d j (pc + 2) ops L ((2, v) :: S) σ Q) : Wp d j pc ((.aload k, 2, ra, rb, rc) :: ops) L S σ Q := wp_ast rfl (by delta ast; dsimp only; rw [h]; dsimp only; rw [if_pos h0]) K
theorem wp_iload_n {k : Fin 4} {v : Int} (h : aget L k.val 0 = some v) (K : Wp d j (pc + 1) ops L ((0, v) :: S) σ Q) : Wp d j pc ((.iload_n k, 1, ra, rb, rc) :: ops) L S σ Q := wp_ast rfl (by delta ast; dsimp only; rw [h]) K
theorem wp_iload {k : Nat} {v : Int} (h : aget L k 0 = some v) (K : Wp d j (pc + 2) ops L ((0, v) :: S) σ Q) : Wp d j pc ((.iload k, 2, ra, rb, rc) :: ops) L S σ Q := wp_ast rfl (by delta ast; dsimp only; rw [h]) K
theorem wp_lload_n {k : Fin 4} {v : Int} (h : aget L k.val 1 = some v) (K : Wp d j (pc + 1) ops L ((1, v) :: S) σ Q) : Wp d j pc ((.lload_n k, 1, ra, rb, rc) :: ops) L S σ Q := wp_ast rfl (by delta ast; dsimp only; rw [h]) K
theorem wp_lload {k : Nat} {v : Int} (h : aget L k 1 = some v) (K : Wp d j (pc + 2) ops L ((1, v) :: S) σ Q) : Wp d j pc ((.lload k, 2, ra, rb, rc) :: ops) L S σ Q := wp_ast rfl (by delta ast; dsimp only; rw [h]) K
theorem wp_astore_n {k : Fin 4} {v : Int} (h : k.val < L.length ∧ 0 ≤ v) (K : Wp d j (pc + 1) ops (aset L k.val (2, v)) S σ Q) : Wp d j pc ((.astore_n k, 1, ra, rb, rc) :: ops) L ((2, v) :: S) σ Q := wp_ast rfl (by delta ast; exact if_pos h) K
theorem wp_astore {k : Nat} {v : Int} (h : k < L.length ∧ 0 ≤ v) (K : Wp d j (pc + 2) ops (aset L k (2, v)) S σ Q) : Wp d j pc ((.astore k, 2, ra, rb, rc) :: ops) L ((2, v) :: S) σ Q := wp_ast rfl (by delta ast; exact if_pos h) K
theorem wp_istore_n {k : Fin 4} {v : Int} (h : k.val < L.length) (K : Wp d j (pc + 1) ops (aset L k.val (0, v)) S σ Q) : Wp d j pc ((.istore_n k, 1, ra, rb, rc) :: ops) L ((0, v) :: S) σ Q := wp_ast rfl (by delta ast; exact if_pos h) K
theorem wp_istore {k : Nat} {v : Int} (h : k < L.length) (K : Wp d j (pc + 2) ops (aset L k (0, v)) S σ Q) : Wp d j pc ((.istore k, 2, ra, rb, rc) :: ops) L ((0, v) :: S) σ Q := wp_ast rfl (by delta ast; exact if_pos h) K
theorem wp_lstore_n {k : Fin 4} {v : Int} (h : k.val + 1 < L.length) (K : Wp d j (pc + 1) ops (aset2 L k.val (1, v)) S σ Q) : Wp d j pc ((.lstore_n k, 1, ra, rb, rc) :: ops) L ((1, v) :: S) σ Q := wp_ast rfl (by delta ast; exact if_pos h) K
theorem wp_lstore {k : Nat} {v : Int} (h : k + 1 < L.length) (K : Wp d j (pc + 2) ops (aset2 L k (1, v)) S σ Q) : Wp d j pc ((.lstore k, 2, ra, rb, rc) :: ops) L ((1, v) :: S) σ Q := wp_ast rfl (by delta ast; exact if_pos h) K
theorem wp_iinc {i : Nat} {n v : Int} (h : aget L i 0 = some v) (h1 : i < L.length ∧ aIn n ∧ aIn (v + n)) (K : Wp d j (pc + 3) ops (aset L i (0, v + n)) S σ Q) : Wp d j pc ((.iinc i n, 3, ra, rb, rc) :: ops) L S σ Q := wp_ast rfl (by delta ast; dsimp only; rw [h]; dsimp only; rw [if_pos h1]) K
theorem wp_iconst {n : Int} (h : aIn n) (K : Wp d j (pc + 1) ops L ((0, n) :: S) σ Q) : Wp d j pc ((.iconst n, 1, ra, rb, rc) :: ops) L S σ Q := wp_ast rfl (by delta ast; exact if_pos h) K
theorem wp_bipush {n : Int} (h : -128 ≤ n ∧ n < 128) (K : Wp d j (pc + 2) ops L ((0, n) :: S) σ Q) : Wp d j pc ((.bipush n, 2, ra, rb, rc) :: ops) L S σ Q := wp_ast rfl (by delta ast; exact if_pos h) K
theorem wp_sipush {n : Int} (h : -32768 ≤ n ∧ n < 32768) (K : Wp d j (pc + 3) ops L ((0, n) :: S) σ Q) : Wp d j pc ((.sipush n, 3, ra, rb, rc) :: ops) L S σ Q := wp_ast rfl (by delta ast; exact if_pos h) K
theorem wp_lconst {n : Fin 2} (K : Wp d j (pc + 1) ops L ((1, (n.val : Int)) :: S) σ Q) : Wp d j pc ((.lconst n, 1, ra, rb, rc) :: ops) L S σ Q := wp_ast rfl (by rfl) K
theorem wp_ldc {i x : Nat} (h : (x : Int) < 2147483648) (K : Wp d j (pc + 2) ops L ((0, (x : Int)) :: S) σ Q) : Wp d j pc ((.ldc i, 2, 0, x, rc) :: ops) L S σ Q := wp_ast rfl (by delta ast; exact (if_pos rfl).trans (if_pos h)) K
theorem wp_ldcS {i x : Nat} (K : Wp d j (pc + 2) ops L ((2, 2000000 + (x : Int)) :: S) σ Q) : Wp d j pc ((.ldc i, 2, 1, x, rc) :: ops) L S σ Q := wp_ast rfl (by delta ast; exact if_neg (by decide)) K
theorem wp_ldc_w {i x : Nat} (h : (x : Int) < 2147483648) (K : Wp d j (pc + 3) ops L ((0, (x : Int)) :: S) σ Q) : Wp d j pc ((.ldc_w i, 3, 0, x, rc) :: ops) L S σ Q := wp_ast rfl (by delta ast; exact (if_pos rfl).trans (if_pos h)) K
theorem wp_ldc_wS {i x : Nat} (K : Wp d j (pc + 3) ops L ((2, 2000000 + (x : Int)) :: S) σ Q) : Wp d j pc ((.ldc_w i, 3, 1, x, rc) :: ops) L S σ Q := wp_ast rfl (by delta ast; exact if_neg (by decide)) K
theorem wp_ldc2_w {i x : Nat} (h : (x : Int) < 2147483648) (K : Wp d j (pc + 3) ops L ((1, (x : Int)) :: S) σ Q) : Wp d j pc ((.ldc2_w i, 3, x, 0, rc) :: ops) L S σ Q := wp_ast rfl (by delta ast; exact if_pos h) K
theorem wp_getstatic {i : Nat} (K : Wp d j (pc + 3) ops L ((2, 1000001) :: S) σ Q) : Wp d j pc ((.getstatic i, 3, ra, rb, rc) :: ops) L S σ Q := wp_ast rfl (by rfl) K
theorem wp_getfield {i ci k : Nat} {n : Int} (h : aWr σ n ci) (K : Wp d j (pc + 3) ops L ((aft ci k, σ.1 n.toNat k) :: S) σ Q) : Wp d j pc ((.getfield i, 3, ci, k, rc) :: ops) L ((2, n) :: S) σ Q := wp_ast rfl (by delta ast; exact if_pos h) K
theorem wp_putfield {i ci k t : Nat} {n v : Int} (h : t = aft ci k ∧ aWr σ n ci) (K : Wp d j (pc + 3) ops L S (awr σ n.toNat k v) Q) : Wp d j pc ((.putfield i, 3, ci, k, rc) :: ops) L ((t, v) :: (2, n) :: S) σ Q := wp_ast rfl (by delta ast; exact if_pos h) K
theorem wp_iaload {i n : Int} (h : aRd σ n 100 ∧ 0 ≤ i ∧ i.toNat < alen σ n.toNat) (K : Wp d j (pc + 1) ops L ((0, σ.1 n.toNat i.toNat) :: S) σ Q) : Wp d j pc ((.iaload, 1, ra, rb, rc) :: ops) L ((0, i) :: (2, n) :: S) σ Q := wp_ast rfl (by delta ast; exact if_pos h) K
theorem wp_baload {i n : Int} (h : aRd σ n 101 ∧ 0 ≤ i ∧ i.toNat < alen σ n.toNat) (K : Wp d j (pc + 1) ops L ((0, σ.1 n.toNat i.toNat) :: S) σ Q) : Wp d j pc ((.baload, 1, ra, rb, rc) :: ops) L ((0, i) :: (2, n) :: S) σ Q := wp_ast rfl (by delta ast; exact if_pos h) K
theorem wp_laload {i n : Int} (h : aRd σ n 102 ∧ 0 ≤ i ∧ i.toNat < alen σ n.toNat) (K : Wp d j (pc + 1) ops L ((1, σ.1 n.toNat i.toNat) :: S) σ Q) : Wp d j pc ((.laload, 1, ra, rb, rc) :: ops) L ((0, i) :: (2, n) :: S) σ Q := wp_ast rfl (by delta ast; exact if_pos h) K
theorem wp_aaload {i n : Int} (h : aRd σ n 103 ∧ 0 ≤ i ∧ i.toNat < alen σ n.toNat) (K : Wp d j (pc + 1) ops L ((2, σ.1 n.toNat i.toNat) :: S) σ Q) : Wp d j pc ((.aaload, 1, ra, rb, rc) :: ops) L ((0, i) :: (2, n) :: S) σ Q := wp_ast rfl (by delta ast; exact if_pos h) K
theorem wp_iastore {v i n : Int} (h : aWr σ n 100 ∧ 0 ≤ i ∧ i.toNat < (ash n.toNat).2) (K : Wp d j (pc + 1) ops L S (awr σ n.toNat i.toNat v) Q) : Wp d j pc ((.iastore, 1, ra, rb, rc) :: ops) L ((0, v) :: (0, i) :: (2, n) :: S) σ Q := wp_ast rfl (by delta ast; exact if_pos h) K
theorem wp_bastore {v i n : Int} (h : aWr σ n 101 ∧ 0 ≤ i ∧ i.toNat < (ash n.toNat).2 ∧ -128 ≤ v ∧ v < 128) (K : Wp d j (pc + 1) ops L S (awr σ n.toNat i.toNat v) Q) : Wp d j pc ((.bastore, 1, ra, rb, rc) :: ops) L ((0, v) :: (0, i) :: (2, n) :: S) σ Q := wp_ast rfl (by delta ast; exact if_pos h) K
theorem wp_lastore {v i n : Int} (h : aWr σ n 102 ∧ 0 ≤ i ∧ i.toNat < (ash n.toNat).2) (K : Wp d j (pc + 1) ops L S (awr σ n.toNat i.toNat v) Q) : Wp d j pc ((.lastore, 1, ra, rb, rc) :: ops) L ((1, v) :: (0, i) :: (2, n) :: S) σ Q := wp_ast rfl (by delta ast; exact if_pos h) K
theorem wp_aastore {v i n : Int} (h : aWr σ n 103 ∧ 0 ≤ i ∧ i.toNat < (ash n.toNat).2 ∧ aWr σ v 8) (K : Wp d j (pc + 1) ops L S (awr σ n.toNat i.toNat v) Q) : Wp d j pc ((.aastore, 1, ra, rb, rc) :: ops) L ((2, v) :: (0, i) :: (2, n) :: S) σ Q := wp_ast rfl (by delta ast; exact if_pos h) K
theorem wp_arraylength {n : Int} (h : 0 ≤ n ∧ 100 ≤ (ash n.toNat).1 ∧ (ash n.toNat).1 < 104 ∧ (n.toNat < σ.2.1 ∨ 1000000 ≤ n) ∧ alen σ n.toNat < 2147483648) (K : Wp d j (pc + 1) ops L ((0, (alen σ n.toNat : Int)) :: S) σ Q) : Wp d j pc ((.arraylength, 1, ra, rb, rc) :: ops) L ((2, n) :: S) σ Q := wp_ast rfl (by delta ast; exact if_pos h) K
theorem wp_iadd {a b : Int} (h : aIn (a + b)) (K : Wp d j (pc + 1) ops L ((0, a + b) :: S) σ Q) : Wp d j pc ((.iadd, 1, ra, rb, rc) :: ops) L ((0, b) :: (0, a) :: S) σ Q := wp_ast rfl (by delta ast; exact if_pos h) K
theorem wp_isub {a b : Int} (h : aIn (a - b)) (K : Wp d j (pc + 1) ops L ((0, a - b) :: S) σ Q) : Wp d j pc ((.isub, 1, ra, rb, rc) :: ops) L ((0, b) :: (0, a) :: S) σ Q := wp_ast rfl (by delta ast; exact if_pos h) K
theorem wp_imul {a b : Int} (h : aIn (a * b)) (K : Wp d j (pc + 1) ops L ((0, a * b) :: S) σ Q) : Wp d j pc ((.imul, 1, ra, rb, rc) :: ops) L ((0, b) :: (0, a) :: S) σ Q := wp_ast rfl (by delta ast; exact if_pos h) K
theorem wp_iand {a b : Int} (K : Wp d j (pc + 1) ops L ((0, aand a b) :: S) σ Q) : Wp d j pc ((.iand, 1, ra, rb, rc) :: ops) L ((0, b) :: (0, a) :: S) σ Q := wp_ast rfl (by rfl) K
theorem wp_ior {a b : Int} (K : Wp d j (pc + 1) ops L ((0, aor a b) :: S) σ Q) : Wp d j pc ((.ior, 1, ra, rb, rc) :: ops) L ((0, b) :: (0, a) :: S) σ Q := wp_ast rfl (by rfl) K
theorem wp_ixor {a b : Int} (K : Wp d j (pc + 1) ops L ((0, axor a b) :: S) σ Q) : Wp d j pc ((.ixor, 1, ra, rb, rc) :: ops) L ((0, b) :: (0, a) :: S) σ Q := wp_ast rfl (by rfl) K
theorem wp_ishl {a b : Int} (K : Wp d j (pc + 1) ops L ((0, ashl a b) :: S) σ Q) : Wp d j pc ((.ishl, 1, ra, rb, rc) :: ops) L ((0, b) :: (0, a) :: S) σ Q := wp_ast rfl (by rfl) K
theorem wp_ishr {a b : Int} (K : Wp d j (pc + 1) ops L ((0, ashr a b) :: S) σ Q) : Wp d j pc ((.ishr, 1, ra, rb, rc) :: ops) L ((0, b) :: (0, a) :: S) σ Q := wp_ast rfl (by rfl) K
theorem wp_iushr {a b : Int} (K : Wp d j (pc + 1) ops L ((0, aushr a b) :: S) σ Q) : Wp d j pc ((.iushr, 1, ra, rb, rc) :: ops) L ((0, b) :: (0, a) :: S) σ Q := wp_ast rfl (by rfl) K
theorem wp_idiv {a b : Int} (h : b ≠ 0) (K : Wp d j (pc + 1) ops L ((0, adiv a b) :: S) σ Q) : Wp d j pc ((.idiv, 1, ra, rb, rc) :: ops) L ((0, b) :: (0, a) :: S) σ Q := wp_ast rfl (by delta ast; exact if_pos h) K
theorem wp_irem {a b : Int} (h : b ≠ 0) (K : Wp d j (pc + 1) ops L ((0, arem a b) :: S) σ Q) : Wp d j pc ((.irem, 1, ra, rb, rc) :: ops) L ((0, b) :: (0, a) :: S) σ Q := wp_ast rfl (by delta ast; exact if_pos h) K
theorem wp_ladd {a b : Int} (h : aInL (a + b)) (K : Wp d j (pc + 1) ops L ((1, a + b) :: S) σ Q) : Wp d j pc ((.ladd, 1, ra, rb, rc) :: ops) L ((1, b) :: (1, a) :: S) σ Q := wp_ast rfl (by delta ast; exact if_pos h) K
theorem wp_lsub {a b : Int} (h : aInL (a - b)) (K : Wp d j (pc + 1) ops L ((1, a - b) :: S) σ Q) : Wp d j pc ((.lsub, 1, ra, rb, rc) :: ops) L ((1, b) :: (1, a) :: S) σ Q := wp_ast rfl (by delta ast; exact if_pos h) K
theorem wp_lmul {a b : Int} (h : aInL (a * b)) (K : Wp d j (pc + 1) ops L ((1, a * b) :: S) σ Q) : Wp d j pc ((.lmul, 1, ra, rb, rc) :: ops) L ((1, b) :: (1, a) :: S) σ Q := wp_ast rfl (by delta ast; exact if_pos h) K
theorem wp_ldiv {a b : Int} (h : b ≠ 0) (K : Wp d j (pc + 1) ops L ((1, aldiv a b) :: S) σ Q) : Wp d j pc ((.ldiv, 1, ra, rb, rc) :: ops) L ((1, b) :: (1, a) :: S) σ Q := wp_ast rfl (by delta ast; exact if_pos h) K
theorem wp_lrem {a b : Int} (h : b ≠ 0) (K : Wp d j (pc + 1) ops L ((1, alrem a b) :: S) σ Q) : Wp d j pc ((.lrem, 1, ra, rb, rc) :: ops) L ((1, b) :: (1, a) :: S) σ Q := wp_ast rfl (by delta ast; exact if_pos h) K
theorem wp_lcmp {a b : Int} (K : Wp d j (pc + 1) ops L ((0, alcmp a b) :: S) σ Q) : Wp d j pc ((.lcmp, 1, ra, rb, rc) :: ops) L ((1, b) :: (1, a) :: S) σ Q := wp_ast rfl (by rfl) K
theorem wp_ineg {a : Int} (h : aIn (-a)) (K : Wp d j (pc + 1) ops L ((0, -a) :: S) σ Q) : Wp d j pc ((.ineg, 1, ra, rb, rc) :: ops) L ((0, a) :: S) σ Q := wp_ast rfl (by delta ast; exact if_pos h) K
theorem wp_i2l {a : Int} (K : Wp d j (pc + 1) ops L ((1, a) :: S) σ Q) : Wp d j pc ((.i2l, 1, ra, rb, rc) :: ops) L ((0, a) :: S) σ Q := wp_ast rfl (by rfl) K
theorem wp_l2i {a : Int} (h : aIn a) (K : Wp d j (pc + 1) ops L ((0, a) :: S) σ Q) : Wp d j pc ((.l2i, 1, ra, rb, rc) :: ops) L ((1, a) :: S) σ Q := wp_ast rfl (by delta ast; exact if_pos h) K
theorem wp_i2b {a : Int} (K : Wp d j (pc + 1) ops L ((0, ai2b a) :: S) σ Q) : Wp d j pc ((.i2b, 1, ra, rb, rc) :: ops) L ((0, a) :: S) σ Q := wp_ast rfl (by rfl) K
theorem wp_dup {t : Nat} {v : Int} (h : t = 0 ∨ t = 2) (K : Wp d j (pc + 1) ops L ((t, v) :: (t, v) :: S) σ Q) : Wp d j pc ((.dup, 1, ra, rb, rc) :: ops) L ((t, v) :: S) σ Q := wp_ast rfl (by delta ast; exact if_pos h) K
theorem wp_dup2l {v : Int} (K : Wp d j (pc + 1) ops L ((1, v) :: (1, v) :: S) σ Q) : Wp d j pc ((.dup2, 1, ra, rb, rc) :: ops) L ((1, v) :: S) σ Q := wp_ast rfl (by delta ast; exact if_pos rfl) K
theorem wp_dup2 {t u : Nat} {v w : Int} (h : (t = 0 ∨ t = 2) ∧ (u = 0 ∨ u = 2)) (K : Wp d j (pc + 1) ops L ((t, v) :: (u, w) :: (t, v) :: (u, w) :: S) σ Q) : Wp d j pc ((.dup2, 1, ra, rb, rc) :: ops) L ((t, v) :: (u, w) :: S) σ Q := wp_ast rfl (by delta ast; exact (if_neg (by omega)).trans (if_pos h)) K
theorem wp_pop {t : Nat} {v : Int} (h : t = 0 ∨ t = 2) (K : Wp d j (pc + 1) ops L S σ Q) : Wp d j pc ((.pop, 1, ra, rb, rc) :: ops) L ((t, v) :: S) σ Q := wp_ast rfl (by delta ast; exact if_pos h) K
theorem wp_goto {off : Int} (K : Wp d j ((pc : Int) + off).toNat [] L S σ Q) : Wp d j pc ((.goto off, 3, ra, rb, rc) :: ops) L S σ Q := wp_jt rfl rfl K
theorem wp_icmp_eq {a b off : Int} (kt : a = b → Wp d j ((pc : Int) + off).toNat [] L S σ Q) (kf : ¬ (a = b) → Wp d j (pc + 3) ops L S σ Q) : Wp d j pc ((.if_icmp .eq off, 3, ra, rb, rc) :: ops) L ((0, b) :: (0, a) :: S) σ Q := by
  by_cases h : a = b
  · exact wp_jt rfl (by delta ajm; exact if_pos h) (kt h)
  · exact wp_jf rfl (by delta ajm; exact if_neg h) (kf h)
theorem wp_icmp_ne {a b off : Int} (kt : ¬ a = b → Wp d j ((pc : Int) + off).toNat [] L S σ Q) (kf : ¬ (¬ a = b) → Wp d j (pc + 3) ops L S σ Q) : Wp d j pc ((.if_icmp .ne off, 3, ra, rb, rc) :: ops) L ((0, b) :: (0, a) :: S) σ Q := by
  by_cases h : ¬ a = b
  · exact wp_jt rfl (by delta ajm; exact if_pos h) (kt h)
  · exact wp_jf rfl (by delta ajm; exact if_neg h) (kf h)
theorem wp_icmp_lt {a b off : Int} (kt : a < b → Wp d j ((pc : Int) + off).toNat [] L S σ Q) (kf : ¬ (a < b) → Wp d j (pc + 3) ops L S σ Q) : Wp d j pc ((.if_icmp .lt off, 3, ra, rb, rc) :: ops) L ((0, b) :: (0, a) :: S) σ Q := by
  by_cases h : a < b
  · exact wp_jt rfl (by delta ajm; exact if_pos h) (kt h)
  · exact wp_jf rfl (by delta ajm; exact if_neg h) (kf h)
theorem wp_icmp_ge {a b off : Int} (kt : b ≤ a → Wp d j ((pc : Int) + off).toNat [] L S σ Q) (kf : ¬ (b ≤ a) → Wp d j (pc + 3) ops L S σ Q) : Wp d j pc ((.if_icmp .ge off, 3, ra, rb, rc) :: ops) L ((0, b) :: (0, a) :: S) σ Q := by
  by_cases h : b ≤ a
  · exact wp_jt rfl (by delta ajm; exact if_pos h) (kt h)
  · exact wp_jf rfl (by delta ajm; exact if_neg h) (kf h)
theorem wp_icmp_gt {a b off : Int} (kt : b < a → Wp d j ((pc : Int) + off).toNat [] L S σ Q) (kf : ¬ (b < a) → Wp d j (pc + 3) ops L S σ Q) : Wp d j pc ((.if_icmp .gt off, 3, ra, rb, rc) :: ops) L ((0, b) :: (0, a) :: S) σ Q := by
  by_cases h : b < a
  · exact wp_jt rfl (by delta ajm; exact if_pos h) (kt h)
  · exact wp_jf rfl (by delta ajm; exact if_neg h) (kf h)
theorem wp_icmp_le {a b off : Int} (kt : a ≤ b → Wp d j ((pc : Int) + off).toNat [] L S σ Q) (kf : ¬ (a ≤ b) → Wp d j (pc + 3) ops L S σ Q) : Wp d j pc ((.if_icmp .le off, 3, ra, rb, rc) :: ops) L ((0, b) :: (0, a) :: S) σ Q := by
  by_cases h : a ≤ b
  · exact wp_jt rfl (by delta ajm; exact if_pos h) (kt h)
  · exact wp_jf rfl (by delta ajm; exact if_neg h) (kf h)
theorem wp_if_eq {a off : Int} (kt : a = 0 → Wp d j ((pc : Int) + off).toNat [] L S σ Q) (kf : ¬ (a = 0) → Wp d j (pc + 3) ops L S σ Q) : Wp d j pc ((.ifCond .eq off, 3, ra, rb, rc) :: ops) L ((0, a) :: S) σ Q := by
  by_cases h : a = 0
  · exact wp_jt rfl (by delta ajm; exact if_pos h) (kt h)
  · exact wp_jf rfl (by delta ajm; exact if_neg h) (kf h)
theorem wp_if_ne {a off : Int} (kt : ¬ a = 0 → Wp d j ((pc : Int) + off).toNat [] L S σ Q) (kf : ¬ (¬ a = 0) → Wp d j (pc + 3) ops L S σ Q) : Wp d j pc ((.ifCond .ne off, 3, ra, rb, rc) :: ops) L ((0, a) :: S) σ Q := by
  by_cases h : ¬ a = 0
  · exact wp_jt rfl (by delta ajm; exact if_pos h) (kt h)
  · exact wp_jf rfl (by delta ajm; exact if_neg h) (kf h)
theorem wp_if_lt {a off : Int} (kt : a < 0 → Wp d j ((pc : Int) + off).toNat [] L S σ Q) (kf : ¬ (a < 0) → Wp d j (pc + 3) ops L S σ Q) : Wp d j pc ((.ifCond .lt off, 3, ra, rb, rc) :: ops) L ((0, a) :: S) σ Q := by
  by_cases h : a < 0
  · exact wp_jt rfl (by delta ajm; exact if_pos h) (kt h)
  · exact wp_jf rfl (by delta ajm; exact if_neg h) (kf h)
theorem wp_if_ge {a off : Int} (kt : 0 ≤ a → Wp d j ((pc : Int) + off).toNat [] L S σ Q) (kf : ¬ (0 ≤ a) → Wp d j (pc + 3) ops L S σ Q) : Wp d j pc ((.ifCond .ge off, 3, ra, rb, rc) :: ops) L ((0, a) :: S) σ Q := by
  by_cases h : 0 ≤ a
  · exact wp_jt rfl (by delta ajm; exact if_pos h) (kt h)
  · exact wp_jf rfl (by delta ajm; exact if_neg h) (kf h)
theorem wp_if_gt {a off : Int} (kt : 0 < a → Wp d j ((pc : Int) + off).toNat [] L S σ Q) (kf : ¬ (0 < a) → Wp d j (pc + 3) ops L S σ Q) : Wp d j pc ((.ifCond .gt off, 3, ra, rb, rc) :: ops) L ((0, a) :: S) σ Q := by
  by_cases h : 0 < a
  · exact wp_jt rfl (by delta ajm; exact if_pos h) (kt h)
  · exact wp_jf rfl (by delta ajm; exact if_neg h) (kf h)
theorem wp_if_le {a off : Int} (kt : a ≤ 0 → Wp d j ((pc : Int) + off).toNat [] L S σ Q) (kf : ¬ (a ≤ 0) → Wp d j (pc + 3) ops L S σ Q) : Wp d j pc ((.ifCond .le off, 3, ra, rb, rc) :: ops) L ((0, a) :: S) σ Q := by
  by_cases h : a ≤ 0
  · exact wp_jt rfl (by delta ajm; exact if_pos h) (kt h)
  · exact wp_jf rfl (by delta ajm; exact if_neg h) (kf h)
theorem wp_ifnull {n off : Int} (kt : n < 0 → Wp d j ((pc : Int) + off).toNat [] L S σ Q) (kf : ¬ n < 0 → Wp d j (pc + 3) ops L S σ Q) : Wp d j pc ((.ifnull off, 3, ra, rb, rc) :: ops) L ((2, n) :: S) σ Q := by
  by_cases h : n < 0
  · exact wp_jt rfl (by delta ajm; exact if_pos h) (kt h)
  · exact wp_jf rfl (by delta ajm; exact if_neg h) (kf h)
theorem wp_ifnonnull {n off : Int} (kt : ¬ n < 0 → Wp d j ((pc : Int) + off).toNat [] L S σ Q) (kf : n < 0 → Wp d j (pc + 3) ops L S σ Q) : Wp d j pc ((.ifnonnull off, 3, ra, rb, rc) :: ops) L ((2, n) :: S) σ Q := by
  by_cases h : n < 0
  · exact wp_jf rfl (by delta ajm; exact if_pos h) (kf h)
  · exact wp_jt rfl (by delta ajm; exact if_neg h) (kt h)
theorem wp_ireturn {v : Int} (h : ra = 0 ∨ v = 0 ∨ v = 1) (hq : Q (some (0, v)) σ) : Wp d j pc ((.ireturn, 1, ra, rb, rc) :: ops) L [(0, v)] σ Q := wp_ret rfl (by delta art; exact if_pos h) hq
theorem wp_lreturn {v : Int} (hq : Q (some (1, v)) σ) : Wp d j pc ((.lreturn, 1, ra, rb, rc) :: ops) L [(1, v)] σ Q := wp_ret rfl rfl hq
theorem wp_areturn {v : Int} (h : 0 ≤ v) (hq : Q (some (2, v)) σ) : Wp d j pc ((.areturn, 1, ra, rb, rc) :: ops) L [(2, v)] σ Q := wp_ret rfl (by delta art; exact if_pos h) hq
theorem wp_return (hq : Q none σ) : Wp d j pc ((.return_, 1, ra, rb, rc) :: ops) L [] σ Q := wp_ret rfl rfl hq
theorem wp_min {i : Nat} {a b : Int} (h : 1 ≤ d ∧ awd S ≤ 8 ∧ (1000 : Nat) = 1000) (K : Wp d j (pc + 3) ops L ((0, if b < a then b else a) :: S) σ Q) : Wp d j pc ((.invokestatic i, 3, 1000, rb, rc) :: ops) L ((0, b) :: (0, a) :: S) σ Q := wp_ast rfl (by delta ast; exact if_pos h) K
theorem wp_max {i : Nat} {a b : Int} (h : 1 ≤ d ∧ awd S ≤ 8 ∧ (1001 : Nat) = 1001) (K : Wp d j (pc + 3) ops L ((0, if b < a then a else b) :: S) σ Q) : Wp d j pc ((.invokestatic i, 3, 1001, rb, rc) :: ops) L ((0, b) :: (0, a) :: S) σ Q := wp_ast rfl (by delta ast; exact (if_neg (by omega)).trans (if_pos h)) K
theorem wp_objInit {i : Nat} {n : Int} (h : 1 ≤ d ∧ awd S ≤ 8 ∧ (1020 : Nat) = 1020 ∧ 0 ≤ n) (K : Wp d j (pc + 3) ops L S σ Q) : Wp d j pc ((.invokespecial i, 3, 1020, rb, rc) :: ops) L ((2, n) :: S) σ Q := wp_ast rfl (by delta ast; exact if_pos h) K
end Wps

/-! ===== the pure machine itself ===== -/
def alen (σ : aS) (n : Nat) : Nat := if n = 1000000 then (σ.1 1000000 5000).toNat else (ash n).2
/-- a cell that may be read as of a kind; one that may be written -/
abbrev aRd (σ : aS) (n : Int) (kind : Nat) : Prop := 0 ≤ n ∧ (ash n.toNat).1 = kind ∧ (n.toNat < σ.2.1 ∨ 1000000 ≤ n)
abbrev aWr (σ : aS) (n : Int) (kind : Nat) : Prop := 0 ≤ n ∧ (ash n.toNat).1 = kind ∧ n.toNat < σ.2.1
def acpy (M : aM) (s d : Nat) (sp dp n : Nat) : aM := fun a b => if a = d ∧ dp ≤ b ∧ b < dp + n then M s (sp + (b - dp)) else M a b
/-- a cell made: all its places hold what they hold at first -/
def amk (σ : aS) (z : Nat → Int) (n : Nat) : aS := ((fun a b => if a = σ.2.1 then z b else σ.1 a b), σ.2.1 + 1, σ.2.2.1 + 1, σ.2.2.2 + n)
/-- what lies on the stack, in places -/
def awd (S : List aV) : Nat := (S.map (fun v => if v.1 = 1 then 2 else 1)).sum
/-- an instruction that goes on behind itself -/
def ast (o : aO) (d : Nat) (L S : List aV) (σ : aS) : Option (List aV × List aV × aS) := match o with
  | (.aload_n k, _) => match aget L k.val 2 with
    | some v => if 0 ≤ v then some (L, (2, v) :: S, σ) else none
    | none => none
  | (.aload k, _) => match aget L k 2 with
    | some v => if 0 ≤ v then some (L, (2, v) :: S, σ) else none
    | none => none
  | (.iload_n k, _) => match aget L k.val 0 with
    | some v => some (L, (0, v) :: S, σ)
    | none => none
  | (.iload k, _) => match aget L k 0 with
    | some v => some (L, (0, v) :: S, σ)
    | none => none
  | (.lload_n k, _) => match aget L k.val 1 with
    | some v => some (L, (1, v) :: S, σ)
    | none => none
  | (.lload k, _) => match aget L k 1 with
    | some v => some (L, (1, v) :: S, σ)
    | none => none
  | (.astore_n k, _) => match S with
    | (2, v) :: S1 => if k.val < L.length ∧ 0 ≤ v then some (aset L k.val (2, v), S1, σ) else none
    | _ => none
  | (.astore k, _) => match S with
    | (2, v) :: S1 => if k < L.length ∧ 0 ≤ v then some (aset L k (2, v), S1, σ) else none
    | _ => none
  | (.istore_n k, _) => match S with
    | (0, v) :: S1 => if k.val < L.length then some (aset L k.val (0, v), S1, σ) else none
    | _ => none
  | (.istore k, _) => match S with
    | (0, v) :: S1 => if k < L.length then some (aset L k (0, v), S1, σ) else none
    | _ => none
  | (.lstore_n k, _) => match S with
    | (1, v) :: S1 => if k.val + 1 < L.length then some (aset2 L k.val (1, v), S1, σ) else none
    | _ => none
  | (.lstore k, _) => match S with
    | (1, v) :: S1 => if k + 1 < L.length then some (aset2 L k (1, v), S1, σ) else none
    | _ => none
  | (.iinc i n, _) => match aget L i 0 with
    | some v => if i < L.length ∧ aIn n ∧ aIn (v + n) then some (aset L i (0, v + n), S, σ) else none
    | none => none
  | (.iconst n, _) => if aIn n then some (L, (0, n) :: S, σ) else none
  | (.bipush n, _) => if -128 ≤ n ∧ n < 128 then some (L, (0, n) :: S, σ) else none
  | (.sipush n, _) => if -32768 ≤ n ∧ n < 32768 then some (L, (0, n) :: S, σ) else none
  | (.lconst n, _) => some (L, (1, (n.val : Int)) :: S, σ)
  | (.ldc _, _, k, x, _) => if k = 0 then (if (x : Int) < 2147483648 then some (L, (0, (x : Int)) :: S, σ) else none) else some (L, (2, 2000000 + (x : Int)) :: S, σ)
  | (.ldc_w _, _, k, x, _) => if k = 0 then (if (x : Int) < 2147483648 then some (L, (0, (x : Int)) :: S, σ) else none) else some (L, (2, 2000000 + (x : Int)) :: S, σ)
  | (.ldc2_w _, _, x, z, _) => if (x : Int) < 2147483648 then some (L, (1, if z = 1 then -(x : Int) else (x : Int)) :: S, σ) else none
  | (.getstatic _, _) => some (L, (2, 1000001) :: S, σ)
  | (.getfield _, _, ci, k, _) => match S with
    | (2, n) :: S1 => if aWr σ n ci then some (L, (aft ci k, σ.1 n.toNat k) :: S1, σ) else none
    | _ => none
  | (.putfield _, _, ci, k, _) => match S with
    | (t, v) :: (2, n) :: S1 => if t = aft ci k ∧ aWr σ n ci then some (L, S1, awr σ n.toNat k v) else none
    | _ => none
  | (.iaload, _) => match S with
    | (0, i) :: (2, n) :: S1 => if aRd σ n 100 ∧ 0 ≤ i ∧ i.toNat < alen σ n.toNat then some (L, (0, σ.1 n.toNat i.toNat) :: S1, σ) else none
    | _ => none
  | (.baload, _) => match S with
    | (0, i) :: (2, n) :: S1 => if aRd σ n 101 ∧ 0 ≤ i ∧ i.toNat < alen σ n.toNat then some (L, (0, σ.1 n.toNat i.toNat) :: S1, σ) else none
    | _ => none
  | (.laload, _) => match S with
    | (0, i) :: (2, n) :: S1 => if aRd σ n 102 ∧ 0 ≤ i ∧ i.toNat < alen σ n.toNat then some (L, (1, σ.1 n.toNat i.toNat) :: S1, σ) else none
    | _ => none
  | (.aaload, _) => match S with
    | (0, i) :: (2, n) :: S1 => if aRd σ n 103 ∧ 0 ≤ i ∧ i.toNat < alen σ n.toNat then some (L, (2, σ.1 n.toNat i.toNat) :: S1, σ) else none
    | _ => none
  | (.iastore, _) => match S with
    | (0, v) :: (0, i) :: (2, n) :: S1 => if aWr σ n 100 ∧ 0 ≤ i ∧ i.toNat < (ash n.toNat).2 then some (L, S1, awr σ n.toNat i.toNat v) else none
    | _ => none
  | (.bastore, _) => match S with
    | (0, v) :: (0, i) :: (2, n) :: S1 => if aWr σ n 101 ∧ 0 ≤ i ∧ i.toNat < (ash n.toNat).2 ∧ -128 ≤ v ∧ v < 128 then some (L, S1, awr σ n.toNat i.toNat v) else none
    | _ => none
  | (.lastore, _) => match S with
    | (1, v) :: (0, i) :: (2, n) :: S1 => if aWr σ n 102 ∧ 0 ≤ i ∧ i.toNat < (ash n.toNat).2 then some (L, S1, awr σ n.toNat i.toNat v) else none
    | _ => none
  | (.aastore, _) => match S with
    | (2, v) :: (0, i) :: (2, n) :: S1 => if aWr σ n 103 ∧ 0 ≤ i ∧ i.toNat < (ash n.toNat).2 ∧ aWr σ v 8 then some (L, S1, awr σ n.toNat i.toNat v) else none
    | _ => none
  | (.arraylength, _) => match S with
    | (2, n) :: S1 => if 0 ≤ n ∧ 100 ≤ (ash n.toNat).1 ∧ (ash n.toNat).1 < 104 ∧ (n.toNat < σ.2.1 ∨ 1000000 ≤ n) ∧ alen σ n.toNat < 2147483648 then some (L, (0, (alen σ n.toNat : Int)) :: S1, σ) else none
    | _ => none
  | (.iadd, _) => match S with
    | (0, b) :: (0, a) :: S1 => if aIn (a + b) then some (L, (0, a + b) :: S1, σ) else none
    | _ => none
  | (.isub, _) => match S with
    | (0, b) :: (0, a) :: S1 => if aIn (a - b) then some (L, (0, a - b) :: S1, σ) else none
    | _ => none
  | (.imul, _) => match S with
    | (0, b) :: (0, a) :: S1 => if aIn (a * b) then some (L, (0, a * b) :: S1, σ) else none
    | _ => none
  | (.iand, _) => match S with
    | (0, b) :: (0, a) :: S1 => some (L, (0, aand a b) :: S1, σ)
    | _ => none
  | (.ior, _) => match S with
    | (0, b) :: (0, a) :: S1 => some (L, (0, aor a b) :: S1, σ)
    | _ => none
  | (.ixor, _) => match S with
    | (0, b) :: (0, a) :: S1 => some (L, (0, axor a b) :: S1, σ)
    | _ => none
  | (.ishl, _) => match S with
    | (0, b) :: (0, a) :: S1 => some (L, (0, ashl a b) :: S1, σ)
    | _ => none
  | (.ishr, _) => match S with
    | (0, b) :: (0, a) :: S1 => some (L, (0, ashr a b) :: S1, σ)
    | _ => none
  | (.iushr, _) => match S with
    | (0, b) :: (0, a) :: S1 => some (L, (0, aushr a b) :: S1, σ)
    | _ => none
  | (.idiv, _) => match S with
    | (0, b) :: (0, a) :: S1 => if b ≠ 0 then some (L, (0, adiv a b) :: S1, σ) else none
    | _ => none
  | (.irem, _) => match S with
    | (0, b) :: (0, a) :: S1 => if b ≠ 0 then some (L, (0, arem a b) :: S1, σ) else none
    | _ => none
  | (.ladd, _) => match S with
    | (1, b) :: (1, a) :: S1 => if aInL (a + b) then some (L, (1, a + b) :: S1, σ) else none
    | _ => none
  | (.lsub, _) => match S with
    | (1, b) :: (1, a) :: S1 => if aInL (a - b) then some (L, (1, a - b) :: S1, σ) else none
    | _ => none
  | (.lmul, _) => match S with
    | (1, b) :: (1, a) :: S1 => if aInL (a * b) then some (L, (1, a * b) :: S1, σ) else none
    | _ => none
  | (.ldiv, _) => match S with
    | (1, b) :: (1, a) :: S1 => if b ≠ 0 then some (L, (1, aldiv a b) :: S1, σ) else none
    | _ => none
  | (.lrem, _) => match S with
    | (1, b) :: (1, a) :: S1 => if b ≠ 0 then some (L, (1, alrem a b) :: S1, σ) else none
    | _ => none
  | (.lcmp, _) => match S with
    | (1, b) :: (1, a) :: S1 => some (L, (0, alcmp a b) :: S1, σ)
    | _ => none
  | (.ineg, _) => match S with
    | (0, a) :: S1 => if aIn (-a) then some (L, (0, -a) :: S1, σ) else none
    | _ => none
  | (.i2l, _) => match S with
    | (0, a) :: S1 => some (L, (1, a) :: S1, σ)
    | _ => none
  | (.l2i, _) => match S with
    | (1, a) :: S1 => if aIn a then some (L, (0, a) :: S1, σ) else none
    | _ => none
  | (.i2b, _) => match S with
    | (0, a) :: S1 => some (L, (0, ai2b a) :: S1, σ)
    | _ => none
  | (.dup, _) => match S with
    | (t, v) :: S1 => if t = 0 ∨ t = 2 then some (L, (t, v) :: (t, v) :: S1, σ) else none
    | _ => none
  | (.dup2, _) => match S with
    | (t, v) :: S1 => if t = 1 then some (L, (1, v) :: (1, v) :: S1, σ) else (match S1 with
      | (u, w) :: S2 => if (t = 0 ∨ t = 2) ∧ (u = 0 ∨ u = 2) then some (L, (t, v) :: (u, w) :: (t, v) :: (u, w) :: S2, σ) else none
      | _ => none)
    | _ => none
  | (.pop, _) => match S with
    | (t, _) :: S1 => if t = 0 ∨ t = 2 then some (L, S1, σ) else none
    | _ => none
  | (.new _, _, ci, _) => if (ash σ.2.1).1 = ci ∧ ci < 14 ∧ σ.2.1 < 1000000 then some (L, (2, (σ.2.1 : Int)) :: S, amk σ (fun k => if aft ci k = 2 then -1 else 0) (afn ci)) else none
  | (.newarray _, _, kind, _) => match S with
    | (0, n) :: S1 => if 0 ≤ n ∧ n < 1000 ∧ ash σ.2.1 = (kind, n.toNat) ∧ (kind = 100 ∨ kind = 101 ∨ kind = 102) ∧ σ.2.1 < 1000000 then some (L, (2, (σ.2.1 : Int)) :: S1, amk σ (fun _ => 0) n.toNat) else none
    | _ => none
  | (.anewarray _, _) => match S with
    | (0, n) :: S1 => if 0 ≤ n ∧ n < 1000 ∧ ash σ.2.1 = (103, n.toNat) ∧ σ.2.1 < 1000000 then some (L, (2, (σ.2.1 : Int)) :: S1, amk σ (fun _ => -1) n.toNat) else none
    | _ => none
  | (.invokestatic _, _, f, _) => match S with
    | (0, b) :: (0, a) :: S1 => if 1 ≤ d ∧ awd S1 ≤ 8 ∧ f = 1000 then some (L, (0, if b < a then b else a) :: S1, σ) else if 1 ≤ d ∧ awd S1 ≤ 8 ∧ f = 1001 then some (L, (0, if b < a then a else b) :: S1, σ) else (match S1 with
      | (2, q) :: (0, p) :: (2, n) :: S2 => if 1 ≤ d ∧ awd S2 ≤ 8 ∧ f = 1002 ∧ aWr σ q 100 ∧ aWr σ n 100 ∧ 0 ≤ p ∧ 0 ≤ a ∧ 0 ≤ b ∧ p + b ≤ (ash n.toNat).2 ∧ a + b ≤ (ash q.toNat).2 then some (L, S2, (acpy σ.1 n.toNat q.toNat p.toNat a.toNat b.toNat, σ.2)) else none
      | _ => none)
    | _ => none
  | (.invokevirtual _, _, f, _) => match S with
    | (2, n) :: S1 => if 4 ≤ d ∧ awd S1 ≤ 8 ∧ f = 1010 ∧ 2000000 ≤ n ∧ n < 2000048 then some (L, (0, ((atx.getD ((n - 2000000).toNat) []).length : Int)) :: S1, σ) else none
    | (0, i) :: (2, n) :: S1 => if 4 ≤ d ∧ awd S1 ≤ 8 ∧ f = 1011 ∧ 2000000 ≤ n ∧ n < 2000048 ∧ 0 ≤ i ∧ i.toNat < (atx.getD ((n - 2000000).toNat) []).length then some (L, (0, ((atx.getD ((n - 2000000).toNat) []).getD i.toNat 0 : Int)) :: S1, σ) else none
    | _ => none
  | (.invokespecial _, _, f, _) => match S with
    | (2, n) :: S1 => if 1 ≤ d ∧ awd S1 ≤ 8 ∧ f = 1020 ∧ 0 ≤ n then some (L, S1, σ) else none
    | _ => none
  | _ => none
/-- a jump: where it goes (none: on behind itself), and the stack -/
def ajm (o : aO) (pc : Nat) (S : List aV) : Option (Option Nat × List aV) := match o with
  | (.goto off, _) => some (some ((pc : Int) + off).toNat, S)
  | (.if_icmp .eq off, _) => match S with
    | (0, b) :: (0, a) :: S1 => if a = b then some (some ((pc : Int) + off).toNat, S1) else some (none, S1)
    | _ => none
  | (.if_icmp .ne off, _) => match S with
    | (0, b) :: (0, a) :: S1 => if ¬ a = b then some (some ((pc : Int) + off).toNat, S1) else some (none, S1)
    | _ => none
  | (.if_icmp .lt off, _) => match S with
    | (0, b) :: (0, a) :: S1 => if a < b then some (some ((pc : Int) + off).toNat, S1) else some (none, S1)
    | _ => none
  | (.if_icmp .ge off, _) => match S with
    | (0, b) :: (0, a) :: S1 => if b ≤ a then some (some ((pc : Int) + off).toNat, S1) else some (none, S1)
    | _ => none
  | (.if_icmp .gt off, _) => match S with
    | (0, b) :: (0, a) :: S1 => if b < a then some (some ((pc : Int) + off).toNat, S1) else some (none, S1)
    | _ => none
  | (.if_icmp .le off, _) => match S with
    | (0, b) :: (0, a) :: S1 => if a ≤ b then some (some ((pc : Int) + off).toNat, S1) else some (none, S1)
    | _ => none
  | (.ifCond .eq off, _) => match S with
    | (0, a) :: S1 => if a = 0 then some (some ((pc : Int) + off).toNat, S1) else some (none, S1)
    | _ => none
  | (.ifCond .ne off, _) => match S with
    | (0, a) :: S1 => if ¬ a = 0 then some (some ((pc : Int) + off).toNat, S1) else some (none, S1)
    | _ => none
  | (.ifCond .lt off, _) => match S with
    | (0, a) :: S1 => if a < 0 then some (some ((pc : Int) + off).toNat, S1) else some (none, S1)
    | _ => none
  | (.ifCond .ge off, _) => match S with
    | (0, a) :: S1 => if 0 ≤ a then some (some ((pc : Int) + off).toNat, S1) else some (none, S1)
    | _ => none
  | (.ifCond .gt off, _) => match S with
    | (0, a) :: S1 => if 0 < a then some (some ((pc : Int) + off).toNat, S1) else some (none, S1)
    | _ => none
  | (.ifCond .le off, _) => match S with
    | (0, a) :: S1 => if a ≤ 0 then some (some ((pc : Int) + off).toNat, S1) else some (none, S1)
    | _ => none
  | (.ifnull off, _) => match S with
    | (2, n) :: S1 => if n < 0 then some (some ((pc : Int) + off).toNat, S1) else some (none, S1)
    | _ => none
  | (.ifnonnull off, _) => match S with
    | (2, n) :: S1 => if n < 0 then some (none, S1) else some (some ((pc : Int) + off).toNat, S1)
    | _ => none
  | (.tableswitch dflt lo hi offs, _) => match S with
    | (0, a) :: S1 => if a < lo ∨ hi < a then some (some ((pc : Int) + dflt).toNat, S1) else (match offs[(a - lo).toNat]? with
      | some off => some (some ((pc : Int) + off).toNat, S1)
      | none => none)
    | _ => none
  | (.lookupswitch dflt ps, _) => match S with
    | (0, a) :: S1 => some (some ((pc : Int) + Op.lookupswitch.offset ps.toList dflt a).toNat, S1)
    | _ => none
  | _ => none
/-- what an instruction is: 0 goes on, 1 jumps, 2 calls, 3 ends, 4 throws, 5 calls what may throw -/
def akd (o : aO) : Nat := match o with
  | (.goto _, _) => 1
  | (.if_icmp _ _, _) => 1
  | (.ifCond _ _, _) => 1
  | (.ifnull _, _) => 1
  | (.ifnonnull _, _) => 1
  | (.tableswitch _ _ _ _, _) => 1
  | (.lookupswitch _ _, _) => 1
  | (.invokestatic _, _, f, _) => if f < 1000 then 2 else if f = 1030 then 5 else 0
  | (.invokevirtual _, _, f, _) => if f < 1000 then 2 else 0
  | (.invokespecial _, _, f, _) => if f < 1000 then 2 else 0
  | (.ireturn, _) => 3
  | (.lreturn, _) => 3
  | (.areturn, _) => 3
  | (.return_, _) => 3
  | (.new _, _, ci, _) => if ci = 999 then 4 else 0
  | _ => 0
/-- how many values a call takes -/
def anA (o : aO) : Nat := match o with
  | (.invokestatic _, _, _, n, _) => n
  | (_, _, _, n, _) => n + 1
def art (o : aO) (S : List aV) : Option (Option aV) := match o with
  | (.ireturn, _, z, _) => match S with
    | [(0, v)] => if z = 0 ∨ v = 0 ∨ v = 1 then some (some (0, v)) else none
    | _ => none
  | (.lreturn, _) => match S with
    | [(1, v)] => some (some (1, v))
    | _ => none
  | (.areturn, _) => match S with
    | [(2, v)] => if 0 ≤ v then some (some (2, v)) else none
    | _ => none
  | (.return_, _) => match S with
    | [] => some none
    | _ => none
  | _ => none
/-- the locals at a method's entry -/
def aent (n : Nat) (as : List aV) : List aV := as.flatMap (fun v => if v.1 = 1 then [v, (9, 0)] else [v]) ++ List.replicate (n - (as.flatMap (fun v => if v.1 = 1 then [v, (9, 0)] else [v])).length) (9, 0)
/-- the cell that a call is made of is of the kind that it must be -/
def aRc (mK : Nat → Nat) (o : aO) (S : List aV) (σ : aS) : Bool := match o with
  | (.invokestatic _, _) => true
  | (.invokevirtual _, _, f, n, _) => match S.drop n with
    | (2, x) :: _ => decide (aWr σ x (mK f))
    | _ => false
  | (.invokespecial _, _, _, n, _) => match S.drop n with
    | (2, x) :: _ => decide (0 ≤ x)
    | _ => false
  | _ => false
/-- n steps: depth d left, method j, at pc with the rest of its stretch; B gives the stretches, mL the locals. A call of led (kind 5): led's number is lj -/
def exec (B : Nat → Nat → Option (List aO)) (mL mK : Nat → Nat) (lj : Nat) : Nat → Nat → Nat → Nat → List aO → List aV → List aV → aS → Option (Option aV × aS)
  | 0, _, _, _, _, _, _, _ => none
  | n + 1, d, j, pc, [], L, S, σ => match B j pc with
    | some ops => exec B mL mK lj n d j pc ops L S σ
    | none => none
  | n + 1, d, j, pc, o :: ops, L, S, σ => match akd o with
    | 0 => match ast o d L S σ with
      | some (L1, S1, σ1) => exec B mL mK lj n d j (pc + o.2.1) ops L1 S1 σ1
      | none => none
    | 1 => match ajm o pc S with
      | some (some t, S1) => exec B mL mK lj n d j t [] L S1 σ
      | some (none, S1) => exec B mL mK lj n d j (pc + o.2.1) ops L S1 σ
      | none => none
    | 2 => match d with
      | 0 => none
      | d1 + 1 => if awd (S.drop (anA o)) ≤ 8 ∧ anA o ≤ S.length ∧ aRc mK o S σ = true ∧ ((S.take (anA o)).reverse.flatMap (fun v => if v.1 = 1 then [v, (9, 0)] else [v])).length ≤ mL o.2.2.1 then (match exec B mL mK lj n d1 o.2.2.1 0 [] (aent (mL o.2.2.1) (S.take (anA o)).reverse) [] σ with
        | some (some (7, _), _) => none
        | some (r, σ1) => exec B mL mK lj n (d1 + 1) j (pc + 3) ops L (r.toList ++ S.drop (anA o)) σ1
        | none => none) else none
    | 3 => match art o S with
      | some r => some (r, σ)
      | none => none
    | 4 => if 3 ≤ d ∧ S.length = 0 then some (some (7, 0), (σ.1, σ.2.1, σ.2.2.1 + 1, σ.2.2.2 + 6)) else none
    | 5 => match d, S with
      | d1 + 2, (2, q) :: (0, i) :: (2, x) :: S1 => if awd S1 ≤ 8 ∧ aWr σ q 102 ∧ 0 < (ash q.toNat).2 ∧ aWr σ x 11 ∧ 2 ≤ mL lj ∧ 6 ≤ d1 then (match exec B mL mK lj n d1 lj 0 [] (aent (mL lj) [(2, x), (0, i)]) [] σ with
        | some (some (7, _), σ1) => exec B mL mK lj n (d1 + 2) j (pc + 3) ops L ((0, 1) :: S1) σ1
        | some (some (0, v), σ1) => exec B mL mK lj n (d1 + 2) j (pc + 3) ops L ((0, 0) :: S1) (awr σ1 q.toNat 0 v)
        | _ => none) else none
      | _, _ => none
    | _ => none

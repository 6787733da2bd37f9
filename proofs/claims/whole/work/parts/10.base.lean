/-! ===== the pure machine: a method's code run over numbered cells; 'none' where a check fails =====
A value: (0, n) an int, (1, n) a long, (2, n) the cell of number n, or null where n is -1; (9, 0) no value.
A store: what cells hold by number and place; how many are named; how many cells and slots are made. -/
abbrev aV : Type := Nat × Int
abbrev aM : Type := Nat → Nat → Int
abbrev aS : Type := aM × Nat × Nat × Nat
/-- an instruction, its length, and what its entry of the pool is: three numbers -/
abbrev aO : Type := Instr × Nat × Nat × Nat × Nat
def aup (M : aM) (n k : Nat) (v : Int) : aM := fun a b => if a = n ∧ b = k then v else M a b
def awr (σ : aS) (n k : Nat) (v : Int) : aS := (aup σ.1 n k v, σ.2)
abbrev aIn (x : Int) : Prop := -2147483648 ≤ x ∧ x < 2147483648
abbrev aInL (x : Int) : Prop := -9223372036854775808 ≤ x ∧ x < 9223372036854775808
def aand (a b : Int) : Int := (Int32.ofInt a &&& Int32.ofInt b).toInt
def aor (a b : Int) : Int := (Int32.ofInt a ||| Int32.ofInt b).toInt
def axor (a b : Int) : Int := (Int32.ofInt a ^^^ Int32.ofInt b).toInt
def ashl (a b : Int) : Int := (Int32.ofInt a <<< (Int32.ofInt b &&& 31)).toInt
def ashr (a b : Int) : Int := (Int32.ofInt a >>> (Int32.ofInt b &&& 31)).toInt
def aushr (a b : Int) : Int := ((Int32.ofInt a).toUInt32 >>> ((Int32.ofInt b).toUInt32 &&& Int32.toUInt32 31)).toInt32.toInt
def adiv (a b : Int) : Int := (Int32.ofInt a / Int32.ofInt b).toInt
def arem (a b : Int) : Int := (Int32.ofInt a - Int32.ofInt a / Int32.ofInt b * Int32.ofInt b).toInt
def aldiv (a b : Int) : Int := (Int64.ofInt a / Int64.ofInt b).toInt
def alrem (a b : Int) : Int := (Int64.ofInt a - Int64.ofInt a / Int64.ofInt b * Int64.ofInt b).toInt
def ai2b (a : Int) : Int := (Int32.ofInt a).toInt8.toInt32.toInt
def alcmp (a b : Int) : Int := if b < a then 1 else if a = b then 0 else -1
/-- a value read out of the locals, of a kind -/
def aget (L : List aV) (i t : Nat) : Option Int := match L[i]? with
  | some v => if v.1 = t then some v.2 else none
  | none => none
/-- storing: a long that began one place ahead is gone -/
def aclr (L : List aV) (i : Nat) : List aV := match i with
  | 0 => L
  | j + 1 => match L[j]? with
    | some v => if v.1 = 1 then L.set j (9, 0) else L
    | none => L
def aset (L : List aV) (i : Nat) (v : aV) : List aV := (aclr L i).set i v
def aset2 (L : List aV) (i : Nat) (v : aV) : List aV := ((aclr L i).set i v).set (i + 1) (9, 0)
/-- what the cells are: kind (below 50: an object of that sort; 100 int[], 101 byte[], 102 long[], 103 State[]) and how many places -/
def ashL : List (Nat × Nat) := [(11, 15), (101, 900), (10, 19), (100, 8), (100, 10), (100, 10), (100, 10), (100, 64), (100, 3), (100, 3), (100, 4), (100, 4), (100, 4), (100, 4), (100, 5), (100, 5), (7, 8), (10, 19), (100, 8), (100, 10), (100, 10), (100, 10), (100, 64), (100, 3), (100, 3), (100, 4), (100, 4), (100, 4), (100, 4), (100, 5), (100, 5), (102, 23), (100, 23), (100, 23), (9, 5), (8, 5), (100, 3), (100, 3), (100, 4), (5, 4), (100, 8), (100, 64), (5, 4), (100, 8), (100, 64), (5, 4), (100, 8), (100, 64), (1, 6), (100, 217), (100, 61), (100, 8), (2, 2), (6, 2), (3, 5), (100, 64), (100, 8), (100, 8), (0, 4), (4, 5), (103, 16), (103, 3), (8, 5), (100, 3), (100, 3), (100, 4), (8, 5), (100, 3), (100, 3), (100, 4), (8, 5), (100, 3), (100, 3), (100, 4), (8, 5), (100, 3), (100, 3), (100, 4), (8, 5), (100, 3), (100, 3), (100, 4), (8, 5), (100, 3), (100, 3), (100, 4), (8, 5), (100, 3), (100, 3), (100, 4), (8, 5), (100, 3), (100, 3), (100, 4), (8, 5), (100, 3), (100, 3), (100, 4), (8, 5), (100, 3), (100, 3), (100, 4), (8, 5), (100, 3), (100, 3), (100, 4), (8, 5), (100, 3), (100, 3), (100, 4), (8, 5), (100, 3), (100, 3), (100, 4), (8, 5), (100, 3), (100, 3), (100, 4), (8, 5), (100, 3), (100, 3), (100, 4), (8, 5), (100, 3), (100, 3), (100, 4), (8, 5), (100, 3), (100, 3), (100, 4), (8, 5), (100, 3), (100, 3), (100, 4), (8, 5), (100, 3), (100, 3), (100, 4), (13, 38), (101, 900), (100, 12), (100, 12), (100, 192), (100, 36), (100, 64), (100, 8), (100, 288), (100, 8), (100, 8), (100, 8), (100, 8), (100, 4), (100, 64), (102, 1)]
def ashW : List (Nat × Nat) := [(12, 28), (100, 10), (100, 10), (100, 10), (100, 3), (100, 3), (100, 4), (100, 4), (100, 4), (100, 4), (100, 5), (100, 5), (102, 15), (100, 15), (100, 15)]
def ash (n : Nat) : Nat × Nat := if n < 154 then ashL.getD n (500, 0) else if n < 1000000 then ashW.getD ((n - 154) % 15) (500, 0) else if n = 1000000 then (100, 0) else if n = 1000001 then (100, 8) else (500, 0)
/-- the kinds of the fields: 0 int, 1 long, 2 a cell -/
def aftL : List (List Nat) := [[2, 2, 2, 0], [2, 2, 2, 2, 2, 2], [2, 2], [2, 2, 2, 2, 2], [2, 2, 0, 0, 0], [2, 2, 2, 0], [2, 2], [2, 0, 0, 2, 2, 2, 2, 0], [2, 2, 2, 0, 0], [2, 0, 0, 0, 0], [0, 0, 0, 2, 0, 2, 2, 2, 2, 0, 2, 2, 2, 2, 2, 2, 2, 2, 0], [2, 0, 2, 2, 2, 2, 2, 2, 2, 2, 2, 2, 2, 2, 0], [0, 0, 0, 0, 0, 0, 0, 0, 0, 0, 0, 0, 0, 0, 2, 2, 2, 2, 2, 2, 2, 2, 2, 2, 2, 2, 2, 2], [0, 0, 0, 2, 2, 2, 0, 0, 0, 0, 0, 0, 0, 0, 1, 0, 2, 2, 2, 2, 0, 0, 2, 2, 2, 0, 0, 2, 2, 2, 2, 0, 0, 0, 2, 2, 1, 0]]
def aft (ci k : Nat) : Nat := (aftL.getD ci []).getD k 0
def afn (ci : Nat) : Nat := (aftL.getD ci []).length
/-- the texts, by their numbers -/
def atx : List (List Nat) := [[108, 111, 117, 100], [101, 114, 114, 115], [100, 114, 111, 117, 103, 104, 116], [109, 111, 117, 116, 104], [100, 101, 101, 112], [108, 111, 110, 103], [119, 101, 116], [100, 114, 121], [97, 116], [97, 102, 116, 101, 114], [104, 101, 97, 114, 100], [108, 111, 115, 116], [119, 101, 108, 108], [99, 97, 118, 101], [119, 97, 121], [118, 111, 105, 99, 101], [102, 111, 108, 107], [101, 99, 104, 111], [117, 110, 115, 117, 114, 101], [116, 97, 108, 107], [105, 100, 108, 101], [115, 104, 121], [98, 111, 108, 100], [114, 111, 118, 101, 114], [119, 101, 108, 108], [99, 97, 118, 101], [119, 97, 121], [118, 111, 105, 99, 101], [102, 111, 108, 107], [101, 99, 104, 111], [117, 110, 115, 117, 114, 101], [116, 97, 108, 107], [108, 111, 117, 100], [101, 114, 114, 115], [100, 114, 111, 117, 103, 104, 116], [109, 111, 117, 116, 104], [100, 101, 101, 112], [108, 111, 110, 103], [119, 101, 116], [100, 114, 121], [105, 100, 108, 101], [115, 104, 121], [98, 111, 108, 100], [114, 111, 118, 101, 114], [97, 116], [97, 102, 116, 101, 114], [104, 101, 97, 114, 100], [108, 111, 115, 116]]

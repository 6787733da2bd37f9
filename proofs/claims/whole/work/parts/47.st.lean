/-! ===== stores with a cell laid anew; loops run by their course; printed functions step by step ===== -/
def setc (M : aM) (n : Nat) (f : Nat → Int) : aM := fun a b => if a = n then f b else M a b
section Setc
variable {M : aM} {n a b k : Nat} {f g : Nat → Int} {v : Int}
theorem setc_at : setc M n f n = f := funext fun _ => if_pos rfl
theorem setc_ne (h : a ≠ n) : setc M n f a = M a := funext fun _ => if_neg h
theorem setc_setc : setc (setc M n f) n g = setc M n g := by
  funext a b; unfold setc; split
  · rfl
  · rfl
theorem setc_self : setc M n (M n) = M := by
  funext a b; unfold setc; split
  · rename_i h; rw [h]
  · rfl
theorem aup_eq : aup M n k v = setc M n (fun b => if b = k then v else M n b) := by
  funext a b; unfold aup setc
  by_cases h : a = n
  · subst h
    by_cases h2 : b = k
    · rw [if_pos ⟨rfl, h2⟩, if_pos rfl]; exact (if_pos h2).symm
    · rw [if_neg (fun h => h2 h.2), if_pos rfl]; exact (if_neg h2).symm
  · rw [if_neg (fun h2 => h h2.1), if_neg h]
theorem aup_setc : aup (setc M n f) n k v = setc M n (fun b => if b = k then v else f b) := by
  rw [aup_eq, setc_setc, setc_at]
theorem aup_at : aup M n k v n k = v := if_pos ⟨rfl, rfl⟩
theorem aup_nc (h : a ≠ n) : aup M n k v a = M a := funext fun _ => if_neg (fun h2 => h h2.1)
theorem aup_ne2 (h : b ≠ k) : aup M n k v a b = M a b := if_neg (fun h2 => h h2.2)
theorem setc_comm {m : Nat} (h : n ≠ m) : setc (setc M n f) m g = setc (setc M m g) n f := by
  funext a b; unfold setc
  by_cases h1 : a = m
  · subst h1; rw [if_pos rfl, if_neg (fun e => h e.symm), if_pos rfl]
  · rw [if_neg h1, if_neg h1]
theorem acpy_eq {s sp dp c : Nat} : acpy M s n sp dp c = setc M n (fun b => if dp ≤ b ∧ b < dp + c then M s (sp + (b - dp)) else M n b) := by
  funext a b; unfold acpy setc
  by_cases h : a = n
  · subst h
    by_cases h2 : dp ≤ b ∧ b < dp + c
    · rw [if_pos ⟨rfl, h2⟩, if_pos rfl]; exact (if_pos h2).symm
    · rw [if_neg (fun h => h2 h.2), if_pos rfl]; exact (if_neg h2).symm
  · rw [if_neg (fun h2 => h h2.1), if_neg h]
end Setc
section Steps
variable {α β : Type}
theorem c_ite {c : Prop} [Decidable c] {x y : Option α} (hc : c) (h : x = y) : (if c then x else none) = y := by rw [if_pos hc]; exact h
theorem c_pos {c : Prop} [Decidable c] {x y z : Option α} (hc : c) (h : x = y) : (if c then x else z) = y := by rw [if_pos hc]; exact h
theorem c_neg {c : Prop} [Decidable c] {x y z : Option α} (hc : ¬ c) (h : z = y) : (if c then x else z) = y := by rw [if_neg hc]; exact h
theorem c_bind {o : Option α} {v : α} {f : α → Option β} {y : Option β} (ho : o = some v) (h : f v = y) : o.bind f = y := by rw [ho]; exact h
theorem for_until (g : Nat → Nat → Option α) {y : Option α} (q : Nat) (hs : ∀ i n, i < q → g i (n + 1) = g (i + 1) n) (he : ∀ n, g q (n + 1) = y) (hq : q < 100000) : g 0 FU = y := by
  have key : ∀ j, ∀ i n, i + j = q → g i (n + j) = g q n := by
    intro j
    induction j with
    | zero => intro i n h; rw [show i = q by omega]; rfl
    | succ j ih =>
      intro i n h
      rw [← Nat.add_assoc, hs i (n + j) (by omega)]
      exact ih (i + 1) n (by omega)
  have h1 := key q 0 (99999 - q + 1) (by omega)
  rw [show 99999 - q + 1 + q = FU by unfold FU; omega] at h1
  rw [h1]
  exact he _
end Steps

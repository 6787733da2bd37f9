/-! ===== states kept: the class's ring ===== -/
section Kep
variable {A : aA} {S : Nat → Int} {T e0 e1 w : Nat} {M M1 : aM}
/-- one state taken over into another -/
def takeM (M : aM) (e0 e1 : Nat) : aM := aup (aup (acpy (acpy (acpy M (e1 + 1) (e0 + 1) 0 0 3) (e1 + 2) (e0 + 2) 0 0 3) (e1 + 3) (e0 + 3) 0 0 4) e0 3 (M e1 3)) e0 4 (M e1 4)
def apart4 (e0 e1 : Nat) : Prop := e0 + 4 ≤ e1 ∨ e1 + 4 ≤ e0
theorem takeM_ne {n : Nat} (h : n < e0 ∨ e0 + 3 < n) : takeM M e0 e1 n = M n := by
  unfold takeM
  rw [aup_nc (by omega), aup_nc (by omega), acpy_eq, setc_ne (by omega), acpy_eq, setc_ne (by omega), acpy_eq, setc_ne (by omega)]
theorem h_take (h : apart4 e0 e1) : f_X8_take T e0 e1 M = some (0, takeM M e0 e1) := by
  unfold apart4 at h
  unfold f_X8_take
  refine c_some (c_some (c_some (c_some (c_some ?_))))
  have r3 : (acpy (acpy (acpy M (e1 + 1) (e0 + 1) 0 0 3) (e1 + 2) (e0 + 2) 0 0 3) (e1 + 3) (e0 + 3) 0 0 4) e1 = M e1 := by
    rw [acpy_eq, setc_ne (by omega), acpy_eq, setc_ne (by omega), acpy_eq, setc_ne (by omega)]
  unfold takeM
  rw [aup_nc (show e1 ≠ e0 by omega), r3]
theorem CS_take (hA : WF A) (h : apart4 e0 e1) (hs : CS M e1 A S) : CS (takeM M e0 e1) e0 A S := by
  have h3 := hA.1.2.2.2.1
  have h4 := hA.1.2.2.2.2.1
  unfold apart4 at h
  obtain ⟨a, b, c, d⟩ := hs
  have c1 : takeM M e0 e1 (e0 + 1) = fun k => if 0 ≤ k ∧ k < 0 + 3 then M (e1 + 1) (0 + (k - 0)) else M (e0 + 1) k := by
    unfold takeM
    rw [aup_nc (by omega), aup_nc (by omega), acpy_eq, setc_ne (by omega), acpy_eq, setc_ne (by omega), acpy_eq, setc_at]
  have c2 : takeM M e0 e1 (e0 + 2) = fun k => if 0 ≤ k ∧ k < 0 + 3 then M (e1 + 2) (0 + (k - 0)) else M (e0 + 2) k := by
    unfold takeM
    rw [aup_nc (by omega), aup_nc (by omega), acpy_eq, setc_ne (by omega), acpy_eq, setc_at, acpy_eq, setc_ne (by omega), setc_ne (by omega)]
  have c3 : takeM M e0 e1 (e0 + 3) = fun k => if 0 ≤ k ∧ k < 0 + 4 then M (e1 + 3) (0 + (k - 0)) else M (e0 + 3) k := by
    unfold takeM
    rw [aup_nc (by omega), aup_nc (by omega), acpy_eq, setc_at, acpy_eq, acpy_eq, setc_ne (by omega), setc_ne (by omega), setc_ne (by omega), setc_ne (by omega)]
  refine ⟨fun k hk => ?_, fun f hf => ?_, ?_, ?_⟩
  · rw [c1, c2]
    refine ⟨?_, ?_⟩
    · show (if 0 ≤ k ∧ k < 0 + 3 then M (e1 + 1) (0 + (k - 0)) else M (e0 + 1) k) = S k
      rw [if_pos (by omega), show 0 + (k - 0) = k by omega]; exact (a k hk).1
    · show (if 0 ≤ k ∧ k < 0 + 3 then M (e1 + 2) (0 + (k - 0)) else M (e0 + 2) k) = S (3 + k)
      rw [if_pos (by omega), show 0 + (k - 0) = k by omega]; exact (a k hk).2
  · rw [c3]
    show (if 0 ≤ f ∧ f < 0 + 4 then M (e1 + 3) (0 + (f - 0)) else M (e0 + 3) f) = S (6 + f)
    rw [if_pos (by omega), show 0 + (f - 0) = f by omega]; exact b f hf
  · unfold takeM
    rw [aup_ne2 (by decide), aup_at]; exact c
  · unfold takeM
    rw [aup_at]; exact d
theorem CS_same (hs : CS M e1 A S) (h : ∀ k, k < 4 → M1 (e1 + k) = M (e1 + k)) : CS M1 e1 A S := by
  have e0 : M1 e1 = M e1 := h 0 (by decide)
  unfold CS at hs ⊢
  rw [h 1 (by decide), h 2 (by decide), h 3 (by decide), e0]
  exact hs
theorem CS_up (hs : CS M e1 A S) {n k : Nat} {v : Int} (h : n < e1 ∨ e1 + 3 < n) : CS (aup M n k v) e1 A S := CS_same hs fun j hj => aup_nc (by omega)
/-- what the ring holds -/
def RG (M : aM) (A : aA) (na : Nat) (P : Nat → Nat → Int) : Prop := M 59 3 = (na : Int) ∧ ∃ np : Nat, np < 16 ∧ M 59 2 = (np : Int) ∧ ∀ i, i < na → CS M (62 + 4 * ((np + 16 - na + i) % 16)) A (P i)
/-- one more remembered; the oldest one gone where there are sixteen -/
def rem (na : Nat) (P : Nat → Nat → Int) (S : Nat → Int) : Nat → Nat → Int := fun i => if na < 16 then (if i = na then S else P i) else (if i = 15 then S else P (i + 1))
def rna (na : Nat) : Nat := if na < 16 then na + 1 else 16
theorem h_keep (hA : WF A) {na : Nat} {P : Nat → Nat → Int} (hna : na ≤ 16) (hr : RG M A na P) (hs : CS M 35 A S) : ∃ M2, f_X4_keep T 35 M = some (0, M2) ∧ RG M2 A (rna na) (rem na P S) ∧ (∀ n, n < 59 ∨ 125 < n → M2 n = M n) ∧ ∀ k, k ≠ 2 → k ≠ 3 → M2 59 k = M 59 k := by
  obtain ⟨r1, np, r2, r3, r4⟩ := hr
  unfold f_X4_keep
  rw [r3, Int.toNat_natCast]
  have hap : apart4 (62 + 4 * np) 35 := Or.inr (by omega)
  have t59 : takeM M (62 + 4 * np) 35 59 = M 59 := takeM_ne (by omega)
  have hnp : arem ((np : Int) + 1) 16 = (((np + 1) % 16 : Nat) : Int) := by
    rw [show (np : Int) + 1 = ((np + 1 : Nat) : Int) by omega, show (16 : Int) = ((16 : Nat) : Int) from rfl]
    exact arem_nat (by omega) (by decide)
  have hmin : (if 16 < (na : Int) + 1 then (16 : Int) else (na : Int) + 1) = ((rna na : Nat) : Int) := by
    unfold rna
    by_cases h : na < 16
    · rw [if_neg (by omega), if_pos h]; rfl
    · rw [if_pos (by omega), if_neg h]; rfl
  refine ⟨aup (aup (takeM M (62 + 4 * np) 35) 59 2 (((np + 1) % 16 : Nat) : Int)) 59 3 ((rna na : Nat) : Int), ?_, ⟨aup_at, (np + 1) % 16, by omega, ?_, ?_⟩, ?_, ?_⟩
  · refine c_ite (by omega) (c_bind (h_take hap) ?_)
    simp only [t59, r3, hnp]
    refine c_ite (by omega) (c_some ?_)
    rw [aup_ne2 (show (3 : Nat) ≠ 2 by decide), t59, r1, hmin]
    exact c_ite (by omega) rfl
  · rw [aup_ne2 (by decide), aup_at]
  · intro i hi
    refine CS_up (CS_up ?_ (by omega)) (by omega)
    unfold rna at hi
    unfold rem rna
    by_cases h : na < 16
    · rw [if_pos h] at hi
      rw [if_pos h, if_pos h]
      by_cases hin : i = na
      · rw [if_pos hin, show ((np + 1) % 16 + 16 - (na + 1) + i) % 16 = np by omega]
        exact CS_take hA hap hs
      · rw [if_neg hin]
        have hidx : ((np + 1) % 16 + 16 - (na + 1) + i) % 16 = (np + 16 - na + i) % 16 := by omega
        rw [hidx]
        have hne : (np + 16 - na + i) % 16 ≠ np := by omega
        exact CS_same (r4 i (by omega)) fun j hj => takeM_ne (by omega)
    · rw [if_neg h] at hi
      rw [if_neg h, if_neg h]
      by_cases hin : i = 15
      · rw [if_pos hin, show ((np + 1) % 16 + 16 - 16 + i) % 16 = np by omega]
        exact CS_take hA hap hs
      · rw [if_neg hin]
        have hidx : ((np + 1) % 16 + 16 - 16 + i) % 16 = (np + 16 - na + (i + 1)) % 16 := by omega
        rw [hidx]
        have hne : (np + 16 - na + (i + 1)) % 16 ≠ np := by omega
        exact CS_same (r4 (i + 1) (by omega)) fun j hj => takeM_ne (by omega)
  · intro n hn
    rw [aup_nc (by omega), aup_nc (by omega), takeM_ne (by omega)]
  · intro k h2 h3
    rw [aup_ne2 h3, aup_ne2 h2, t59]
theorem h_giveBack (hA : WF A) {na : Nat} {P : Nat → Nat → Int} (hna : na ≤ 16) (h0 : 0 < na) (hr : RG M A na P) : ∃ M2, f_X4_giveBack T 35 M = some (0, M2) ∧ RG M2 A (na - 1) P ∧ CS M2 35 A (P (na - 1)) ∧ (∀ n, n < 35 ∨ (38 < n ∧ n ≠ 59) → M2 n = M n) ∧ ∀ k, k ≠ 2 → k ≠ 3 → M2 59 k = M 59 k := by
  obtain ⟨r1, np, r2, r3, r4⟩ := hr
  unfold f_X4_giveBack
  rw [r3]
  have hnp : arem ((np : Int) + 16 - 1) 16 = (((np + 15) % 16 : Nat) : Int) := by
    rw [show (np : Int) + 16 - 1 = ((np + 15 : Nat) : Int) by omega, show (16 : Int) = ((16 : Nat) : Int) from rfl]
    exact arem_nat (by omega) (by decide)
  rw [hnp]
  have hap : apart4 35 (62 + 4 * ((np + 15) % 16)) := Or.inl (by omega)
  have hcs := r4 (na - 1) (by omega)
  rw [show (np + 16 - na + (na - 1)) % 16 = (np + 15) % 16 by omega] at hcs
  have hcs2 : CS (aup (aup M 59 2 (((np + 15) % 16 : Nat) : Int)) 59 3 ((na - 1 : Nat) : Int)) (62 + 4 * ((np + 15) % 16)) A (P (na - 1)) := CS_up (CS_up hcs (by omega)) (by omega)
  refine ⟨takeM (aup (aup M 59 2 (((np + 15) % 16 : Nat) : Int)) 59 3 ((na - 1 : Nat) : Int)) 35 (62 + 4 * ((np + 15) % 16)), ?_, ⟨?_, (np + 15) % 16, by omega, ?_, ?_⟩, CS_take hA hap hcs2, ?_, ?_⟩
  · refine c_ite (by omega) (c_ite (by omega) (c_some ?_))
    rw [aup_ne2 (show (3 : Nat) ≠ 2 by decide), r1]
    refine c_ite (by omega) (c_some ?_)
    rw [show (na : Int) - 1 = ((na - 1 : Nat) : Int) by omega, aup_ne2 (show (2 : Nat) ≠ 3 by decide), aup_at, Int.toNat_natCast]
    exact c_ite (by omega) (c_bind (h_take hap) rfl)
  · rw [takeM_ne (by omega), aup_at]
  · rw [takeM_ne (by omega), aup_ne2 (by decide), aup_at]
  · intro i hi
    have hidx : ((np + 15) % 16 + 16 - (na - 1) + i) % 16 = (np + 16 - na + i) % 16 := by omega
    rw [hidx]
    exact CS_same (r4 i (by omega)) fun j hj => by rw [takeM_ne (by omega), aup_nc (by omega), aup_nc (by omega)]
  · intro n hn
    rw [takeM_ne (by omega), aup_nc (by omega), aup_nc (by omega)]
  · intro k h2 h3
    rw [takeM_ne (by omega), aup_ne2 h3, aup_ne2 h2]
/-- images -/
def IG (M : aM) (A : aA) (ni : Nat) (I : Nat → Nat → Int) : Prop := M 59 4 = (ni : Int) ∧ ∀ i, i < ni → CS M (126 + 4 * i) A (I i)
theorem h_addImage (hA : WF A) {ni : Nat} {I : Nat → Nat → Int} (hni : ni < 3) (hi : IG M A ni I) (hs : CS M 35 A S) : ∃ M2, f_X4_addImage T 35 M = some ((ni : Int), M2) ∧ IG M2 A (ni + 1) (fun i => if i = ni then S else I i) ∧ (∀ n, n < 126 → n ≠ 59 → M2 n = M n) ∧ (∀ n, 137 < n → M2 n = M n) ∧ ∀ k, k ≠ 4 → M2 59 k = M 59 k := by
  obtain ⟨i1, i2⟩ := hi
  unfold f_X4_addImage
  rw [i1, Int.toNat_natCast]
  have hap : apart4 (126 + 4 * ni) 35 := Or.inr (by omega)
  have t59 : takeM M (126 + 4 * ni) 35 59 = M 59 := takeM_ne (by omega)
  refine ⟨aup (takeM M (126 + 4 * ni) 35) 59 4 ((ni + 1 : Nat) : Int), ?_, ⟨aup_at, ?_⟩, ?_, ?_, ?_⟩
  · refine c_ite (by omega) (c_bind (h_take hap) ?_)
    simp only [t59, i1, show (ni : Int) + 1 = ((ni + 1 : Nat) : Int) by omega]
    refine c_ite (by omega) (c_some ?_)
    rw [aup_at, show ((ni + 1 : Nat) : Int) - 1 = (ni : Int) by omega]
    exact c_ite (by omega) rfl
  · intro i hi
    show CS _ _ A (if i = ni then S else I i)
    by_cases hin : i = ni
    · rw [if_pos hin, hin]; exact CS_up (CS_take hA hap hs) (by omega)
    · rw [if_neg hin]
      exact CS_same (i2 i (by omega)) fun j hj => by rw [aup_nc (by omega), takeM_ne (by omega)]
  · intro n hn hne; rw [aup_nc hne, takeM_ne (by omega)]
  · intro n hn; rw [aup_nc (by omega), takeM_ne (by omega)]
  · intro k hk; rw [aup_ne2 hk, t59]
theorem h_goBack (hA : WF A) {ni q : Nat} {I : Nat → Nat → Int} (hni : ni ≤ 3) (hq : q < ni) (hi : IG M A ni I) : ∃ M2, f_X4_goBack T 35 (q : Int) M = some (0, M2) ∧ CS M2 35 A (I q) ∧ M2 59 3 = 0 ∧ (∀ n, n < 35 ∨ (38 < n ∧ n ≠ 59) → M2 n = M n) ∧ ∀ k, k ≠ 3 → M2 59 k = M 59 k := by
  unfold f_X4_goBack
  have hap : apart4 35 (126 + 4 * q) := Or.inl (by omega)
  refine ⟨aup (takeM M 35 (126 + 4 * q)) 59 3 0, ?_, CS_up (CS_take hA hap (hi.2 q hq)) (by omega), aup_at, ?_, ?_⟩
  · rw [Int.toNat_natCast]
    exact c_ite (by omega) (c_bind (h_take hap) rfl)
  · intro n hn; rw [aup_nc (by omega), takeM_ne (by omega)]
  · intro k hk; rw [aup_ne2 hk, takeM_ne (by omega)]
end Kep

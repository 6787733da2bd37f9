/-! ===== chase, chaseBy: the model ===== -/
section Chm
variable {A : aA} {S : Nat → Int} {T w : Nat} {M M0 Z : aM} {dr : Nat → Bool}
theorem g_chs6 (k : Int → aM → Option (Int × aM)) : l_X13_chases_6 T k FU 0 M = k 64 (setc M 152 (rws (M 152) 8 (fun a b => if a = b then 0 else 9999))) := by
  have hV : ovr (M 152) 64 (fun b => if b / 8 = b % 8 then 0 else 9999) = rws (M 152) 8 (fun a b => if a = b then 0 else 9999) := rfl
  have e0 : setc M 152 (ovr (M 152) 0 (fun b => if b / 8 = b % 8 then 0 else 9999)) = M := by
    have : ovr (M 152) 0 (fun b => if b / 8 = b % 8 then 0 else 9999) = M 152 := funext fun b => if_neg (Nat.not_lt_zero b)
    rw [this, setc_self]
  have h := for_until (fun i n => l_X13_chases_6 T k n (i : Int) (setc M 152 (ovr (M 152) i (fun b => if b / 8 = b % 8 then 0 else 9999)))) (y := k 64 (setc M 152 (rws (M 152) 8 (fun a b => if a = b then 0 else 9999)))) 64 ?_ ?_ (by omega)
  · have h2 : l_X13_chases_6 T k FU ((0 : Nat) : Int) (setc M 152 (ovr (M 152) 0 (fun b => if b / 8 = b % 8 then 0 else 9999))) = _ := h
    rw [e0] at h2
    exact h2
  · intro i n hi
    have hup : ∀ x : Nat, x = (if i / 8 = i % 8 then 0 else 9999) → (fun b => if b = i then (x : Int) else ovr (M 152) i (fun b => if b / 8 = b % 8 then 0 else 9999) b) = ovr (M 152) (i + 1) (fun b => if b / 8 = b % 8 then 0 else 9999) := by
      intro x hx
      funext b
      unfold ovr
      by_cases hb : b = i
      · rw [if_pos hb, if_pos (by omega), hx, hb]
      · rw [if_neg hb]
        split
        · rw [if_pos (by omega)]
        · rw [if_neg (by omega)]
    show l_X13_chases_6 T k (n + 1) (i : Int) _ = l_X13_chases_6 T k n ((i + 1 : Nat) : Int) _
    rw [l_X13_chases_6, show (8 : Int) = ((8 : Nat) : Int) from rfl, adiv_nat (by omega) (by decide), arem_nat (by omega) (by decide)]
    refine c_neg (by omega) ?_
    by_cases hd : i / 8 = i % 8
    · refine c_pos (by omega) (c_ite (by omega) (c_some (c_ite (by omega) ?_)))
      rw [Int.toNat_natCast, aup_setc]
      have := hup 0 (by rw [if_pos hd])
      rw [← this]; rfl
    · refine c_neg (by omega) (c_ite (by omega) (c_some (c_ite (by omega) ?_)))
      rw [Int.toNat_natCast, aup_setc]
      have := hup 9999 (by rw [if_neg hd])
      rw [← this]; rfl
  · intro n
    show l_X13_chases_6 T k (n + 1) ((64 : Nat) : Int) _ = _
    rw [l_X13_chases_6]
    exact c_pos (by omega) (by rw [hV]; rfl)
theorem g_mayGo (hA : WF A) (hL : LM M A dr) {a b : Nat} (ha : a < 8) (hb : b < 8) : f_X13_mayGo T (a : Int) (b : Int) M = some (bI (arr A dr a b)) := by
  unfold f_X13_mayGo arr
  by_cases h : a = b
  · rw [if_pos (by omega), decide_eq_true h]; rfl
  · rw [if_neg (by omega), decide_eq_false h, Bool.false_or]
    refine c_ite (by omega) ?_
    rw [Int.toNat_natCast, hL.1 a ha]
    refine c_bind (h_bit (Nat.lt_trans (nr_lt A dr a) (by decide)) (by omega)) ?_
    rw [nr_bit hA]
    cases adj A dr a b <;> rfl
theorem g_worst (hA : WF A) (hm : MV T M w A) (hL : LM M A dr) {V : Nat → Nat → Nat} {o v : Nat} (hV : ∀ x, x < A 0 1 → M 152 (8 * o + x) = ((V o x : Nat) : Int)) (ho : o < A 0 1) (hv : v < A 0 1) : f_X13_worst T (o : Int) (v : Int) M = some ((wst A dr V o v : Nat) : Int) := by
  have h8 := hA.1.2.1
  unfold f_X13_worst wst
  by_cases hov : o = v
  · rw [if_pos (by omega), if_pos hov]; rfl
  · rw [if_neg (by omega), if_neg hov]
    refine for_until (fun x n => l_X13_worst_12 T (o : Int) (v : Int) M (fun w14 w15 => some w14) n ((wsx A dr V o v x : Nat) : Int) (x : Int)) (A 0 1) (fun x n hx => ?_) (fun n => ?_) (by omega)
    · show l_X13_worst_12 T (o : Int) (v : Int) M _ (n + 1) _ (x : Int) = l_X13_worst_12 T (o : Int) (v : Int) M _ n ((if arr A dr v x = true then (if V o x ≤ wsx A dr V o v x then wsx A dr V o v x else V o x) else wsx A dr V o v x : Nat) : Int) ((x + 1 : Nat) : Int)
      generalize wsx A dr V o v x = q
      rw [l_X13_worst_12, hm.1, Int.toNat_natCast, hm.2.2.1.2.2.2.1, show (8 * (o : Int) + (x : Int)).toNat = 8 * o + x by omega, hV x hx]
      refine c_ite hm.2.1 (c_neg (by omega) (c_bind (g_mayGo hA hL (by omega) (by omega)) ?_))
      cases arr A dr v x
      · rw [if_neg Bool.false_ne_true]
        exact c_pos rfl (c_ite (by omega) rfl)
      · rw [if_pos rfl]
        refine c_neg (by decide) (c_ite (by omega) (c_ite (by omega) (c_ite (by omega) ?_)))
        by_cases hle : V o x ≤ q
        · rw [if_pos hle]
          exact c_pos (by omega) (c_ite (by omega) rfl)
        · rw [if_neg hle]
          exact c_neg (by omega) (c_ite (by omega) rfl)
    · show l_X13_worst_12 T (o : Int) (v : Int) M _ (n + 1) _ ((A 0 1 : Nat) : Int) = _
      rw [l_X13_worst_12, hm.1, Int.toNat_natCast, hm.2.2.1.2.2.2.1]
      exact c_ite hm.2.1 (c_pos (Int.le_refl _) rfl)
/-- what is told of goings is so -/
def tr2 (A : aA) (dr : Nat → Bool) (V : Nat → Nat → Nat) : Prop := (∀ a c, V a c ≤ 9999) ∧ (∀ a c, V a c < 9999 → chW A dr (V a c) a c = true) ∧ ∀ a, V a a = 0
def th3 (o k t a c x : Nat) : Prop := a < o ∨ (a = o ∧ (c < k ∨ (c = k ∧ x < t)))
/-- nothing changed, or something did -/
def fl2 (A : aA) (V0 : Nat → Nat → Nat) (s : Int × (Nat → Nat → Nat)) : Prop := (s.1 = 0 ∧ ∀ a c, s.2 a c = V0 a c) ∨ (s.1 = 1 ∧ ∃ a c, a < A 0 1 ∧ c < A 0 1 ∧ s.2 a c < V0 a c)
/-- within a pass -/
def PR (A : aA) (dr : Nat → Bool) (V0 : Nat → Nat → Nat) (p : Nat → Nat → Nat → Prop) (s : Int × (Nat → Nat → Nat)) : Prop :=
  (∀ a c, s.2 a c ≤ V0 a c) ∧ tr2 A dr s.2 ∧ fl2 A V0 s ∧
  ∀ a c x, a < A 0 1 → c < A 0 1 → x < A 0 1 → a ≠ c → arr A dr a x = true → p a c x → s.2 a c ≤ wst A dr V0 x c + 1
theorem PR.mono {V0 : Nat → Nat → Nat} {p q : Nat → Nat → Nat → Prop} {s : Int × (Nat → Nat → Nat)} (h : PR A dr V0 p s) (e : ∀ a c x, a < A 0 1 → c < A 0 1 → x < A 0 1 → a ≠ c → q a c x → p a c x) : PR A dr V0 q s := ⟨h.1, h.2.1, h.2.2.1, fun a c x ha hc hx hac har hq => h.2.2.2 a c x ha hc hx hac har (e a c x ha hc hx hac hq)⟩
theorem wst_mono {V V0 : Nat → Nat → Nat} {o v : Nat} (h : ∀ a c, V a c ≤ V0 a c) : wst A dr V o v ≤ wst A dr V0 o v := by
  unfold wst
  split
  · exact Nat.le_refl _
  · exact wsx_le _ fun x hx ha => Nat.le_trans (h o x) (wsx_ge _ x hx ha)
def up2 (V : Nat → Nat → Nat) (o k y : Nat) : Nat → Nat → Nat := fun a c => if a = o ∧ c = k then y else V a c
section Pass
variable {V0 : Nat → Nat → Nat} {g : Nat → Int}
theorem g_chs79 (hA : WF A) (hm : MV T M w A) (hL : LM M A dr) {o k : Nat} (ho : o < A 0 1) (hk : k < A 0 1) {s : Int × (Nat → Nat → Nat)} (hs : PR A dr V0 (th3 o k 0) s) (kk : Int → Int → aM → Option (Int × aM)) : ∃ s' x, PR A dr V0 (th3 o (k + 1) 0) s' ∧ l_X13_chases_79 T (o : Int) (k : Int) kk FU s.1 0 (setc M 152 (rws g 8 s.2)) = kk s'.1 x (setc M 152 (rws g 8 s'.2)) := by
  have h8 := hA.1.2.1
  have hmZ : ∀ f, MV T (setc M 152 f) w A := fun f => mv_ne hm (by decide) f
  have hLZ : ∀ f, LM (setc M 152 f) A dr := fun f => by
    unfold LM
    rw [setc_ne (by decide), setc_ne (by decide)]
    exact hL
  have h152 : ∀ V : Nat → Nat → Nat, ∀ a c, a < 8 → c < 8 → setc M 152 (rws g 8 V) 152 (8 * a + c) = ((V a c : Nat) : Int) := fun V a c ha hc => by rw [setc_at, rws_at ha hc]
  by_cases hok : o = k
  · refine ⟨s, 0, hs.mono (fun a c x _ _ _ hac hq => by unfold th3 at hq ⊢; omega), ?_⟩
    show l_X13_chases_79 T (o : Int) (k : Int) kk (99999 + 1) s.1 0 (setc M 152 (rws g 8 s.2)) = _
    rw [l_X13_chases_79, (hmZ (rws g 8 s.2)).1, Int.toNat_natCast, (hmZ (rws g 8 s.2)).2.2.1.2.2.2.1]
    exact c_ite (hmZ (rws g 8 s.2)).2.1 (c_neg (by omega) (c_pos (by omega) rfl))
  · have keyI := for_inv (fun n t (s : Int × (Nat → Nat → Nat)) => l_X13_chases_79 T (o : Int) (k : Int) kk n s.1 (t : Int) (setc M 152 (rws g 8 s.2))) (fun t s => PR A dr V0 (th3 o k t) s) (A 0 1) (fun t n s ht hs => ?_) (by omega) s hs
    · obtain ⟨s', h1, n, hl⟩ := keyI
      refine ⟨s', ((A 0 1 : Nat) : Int), h1.mono (fun a c x _ _ _ hac hq => by unfold th3 at hq ⊢; omega), ?_⟩
      have e : l_X13_chases_79 T (o : Int) (k : Int) kk FU s.1 0 (setc M 152 (rws g 8 s.2)) = l_X13_chases_79 T (o : Int) (k : Int) kk (n + 1) s'.1 ((A 0 1 : Nat) : Int) (setc M 152 (rws g 8 s'.2)) := hl
      rw [e, l_X13_chases_79, (hmZ (rws g 8 s'.2)).1, Int.toNat_natCast, (hmZ (rws g 8 s'.2)).2.2.1.2.2.2.1]
      exact c_ite (hmZ (rws g 8 s'.2)).2.1 (c_pos (Int.le_refl _) rfl)
    · obtain ⟨f, V⟩ := s
      obtain ⟨p1, ⟨t1, t2, t3⟩, p3, p4⟩ := hs
      have p1' : ∀ a c, V a c ≤ V0 a c := p1
      have t1' : ∀ a c, V a c ≤ 9999 := t1
      have hw := g_worst (T := T) hA (hmZ (rws g 8 V)) (hLZ (rws g 8 V)) (V := V) (fun x hx => h152 V t x (by omega) (by omega)) ht hk
      have hwm : wst A dr V t k ≤ wst A dr V0 t k := wst_mono p1
      have stay : (arr A dr o t = true → V o k ≤ wst A dr V0 t k + 1) → PR A dr V0 (th3 o k (t + 1)) (f, V) := by
        intro h
        refine ⟨p1, ⟨t1, t2, t3⟩, p3, fun a c x ha hc hx hac har hq => ?_⟩
        by_cases he : a = o ∧ c = k ∧ x = t
        · obtain ⟨rfl, rfl, rfl⟩ := he
          exact h har
        · exact p4 a c x ha hc hx hac har (by unfold th3 at hq ⊢; omega)
      show ∃ s' : Int × (Nat → Nat → Nat), _ ∧ l_X13_chases_79 T (o : Int) (k : Int) kk (n + 1) f (t : Int) (setc M 152 (rws g 8 V)) = l_X13_chases_79 T (o : Int) (k : Int) kk n s'.1 ((t + 1 : Nat) : Int) (setc M 152 (rws g 8 s'.2))
      rw [l_X13_chases_79, (hmZ (rws g 8 V)).1, Int.toNat_natCast, (hmZ (rws g 8 V)).2.2.1.2.2.2.1, show (8 * (o : Int) + (k : Int)).toNat = 8 * o + k by omega, h152 V o k (by omega) (by omega)]
      have hgo := g_mayGo (T := T) hA (hLZ (rws g 8 V)) (a := o) (b := t) (by omega) (by omega)
      have hVok := t1' o k
      cases ha : arr A dr o t
      · rw [ha] at hgo
        exact ⟨(f, V), stay (fun e => by rw [ha] at e; cases e), c_ite (hmZ (rws g 8 V)).2.1 (c_neg (by omega) (c_neg (by omega) (c_bind hgo (c_pos rfl (c_ite (by omega) rfl)))))⟩
      · rw [ha] at hgo
        by_cases hfar : 9999 ≤ wst A dr V t k
        · exact ⟨(f, V), stay (fun _ => by omega), c_ite (hmZ (rws g 8 V)).2.1 (c_neg (by omega) (c_neg (by omega) (c_bind hgo (c_neg (by decide) (c_bind hw (c_pos (by omega) (c_ite (by omega) rfl)))))))⟩
        · by_cases hlt : wst A dr V t k + 1 < V o k
          · have htru : chW A dr (wst A dr V t k + 1) o k = true := by
              refine (chW_iff _ o k).mpr (Or.inr ⟨t, ht, ha, ?_⟩)
              by_cases htk : t = k
              · exact Or.inl htk
              · refine Or.inr fun x hx hax => ?_
                have h1 : V t x ≤ wst A dr V t k := by
                  unfold wst
                  rw [if_neg htk]
                  exact wsx_ge _ x hx hax
                exact chW_to (t2 t x (show V t x < 9999 by omega)) h1
            have hV0 := p1' o k
            refine ⟨(1, up2 V o k (wst A dr V t k + 1)), ⟨fun a c => ?_, ⟨fun a c => ?_, fun a c => ?_, fun a => ?_⟩, Or.inr ⟨rfl, o, k, ho, hk, ?_⟩, fun a c x hac1 hc hx hac har hq => ?_⟩, ?_⟩
            · show up2 V o k _ a c ≤ V0 a c
              unfold up2
              split
              · rename_i e; obtain ⟨rfl, rfl⟩ := e; omega
              · exact p1' a c
            · show up2 V o k _ a c ≤ 9999
              unfold up2
              split
              · omega
              · exact t1' a c
            · show up2 V o k _ a c < 9999 → chW A dr (up2 V o k _ a c) a c = true
              unfold up2
              split
              · rename_i e; obtain ⟨rfl, rfl⟩ := e; exact fun _ => htru
              · exact t2 a c
            · show up2 V o k _ a a = 0
              unfold up2
              rw [if_neg (by omega)]
              exact t3 a
            · show up2 V o k _ o k < V0 o k
              unfold up2
              rw [if_pos ⟨rfl, rfl⟩]
              omega
            · show up2 V o k _ a c ≤ _
              unfold up2
              split
              · rename_i e
                obtain ⟨rfl, rfl⟩ := e
                by_cases hxt : x = t
                · subst hxt; omega
                · have h1 : V a c ≤ wst A dr V0 x c + 1 := p4 a c x hac1 hc hx hac har (by unfold th3 at hq ⊢; omega)
                  omega
              · rename_i e
                exact p4 a c x hac1 hc hx hac har (by unfold th3 at hq ⊢; omega)
            · refine c_ite (hmZ (rws g 8 V)).2.1 (c_neg (by omega) (c_neg (by omega) (c_bind hgo (c_neg (by decide) (c_bind hw (c_neg (by omega) (c_bind hw (c_ite (by omega) (c_ite (by omega) (c_ite (by omega) (c_ite (by omega) (c_pos (by omega) (c_bind hw (c_ite (by omega) (c_some (c_ite (by omega) ?_))))))))))))))))
              rw [aup_setc]
              have e : (fun x => if x = 8 * o + k then (((wst A dr V t k : Nat) : Int) + 1) else rws g 8 V x) = rws g 8 (up2 V o k (wst A dr V t k + 1)) := rws_set (v := wst A dr V t k + 1) (by omega) (by omega)
              rw [e]
              rfl
          · exact ⟨(f, V), stay (fun _ => by omega), c_ite (hmZ (rws g 8 V)).2.1 (c_neg (by omega) (c_neg (by omega) (c_bind hgo (c_neg (by decide) (c_bind hw (c_neg (by omega) (c_bind hw (c_ite (by omega) (c_ite (by omega) (c_ite (by omega) (c_ite (by omega) (c_neg (by omega) (c_ite (by omega) rfl)))))))))))))⟩
theorem g_chs65 (hA : WF A) (hm : MV T M w A) (hL : LM M A dr) {o : Nat} (ho : o < A 0 1) {s : Int × (Nat → Nat → Nat)} (hs : PR A dr V0 (th3 o 0 0) s) (kk : Int → Int → aM → Option (Int × aM)) : ∃ s', PR A dr V0 (th3 (o + 1) 0 0) s' ∧ l_X13_chases_65 T (o : Int) kk FU s.1 0 (setc M 152 (rws g 8 s.2)) = kk s'.1 (A 0 1) (setc M 152 (rws g 8 s'.2)) := by
  have h8 := hA.1.2.1
  have hmZ : ∀ f, MV T (setc M 152 f) w A := fun f => mv_ne hm (by decide) f
  have keyI := for_inv (fun n k (s : Int × (Nat → Nat → Nat)) => l_X13_chases_65 T (o : Int) kk n s.1 (k : Int) (setc M 152 (rws g 8 s.2))) (fun k s => PR A dr V0 (th3 o k 0) s) (A 0 1) (fun k n s hk hs => ?_) (by omega) s hs
  · obtain ⟨s', h1, n, hl⟩ := keyI
    refine ⟨s', h1.mono (fun a c x _ _ _ hac hq => by unfold th3 at hq ⊢; omega), ?_⟩
    have e : l_X13_chases_65 T (o : Int) kk FU s.1 0 (setc M 152 (rws g 8 s.2)) = l_X13_chases_65 T (o : Int) kk (n + 1) s'.1 ((A 0 1 : Nat) : Int) (setc M 152 (rws g 8 s'.2)) := hl
    rw [e, l_X13_chases_65, (hmZ (rws g 8 s'.2)).1, Int.toNat_natCast, (hmZ (rws g 8 s'.2)).2.2.1.2.2.2.1]
    exact c_ite (hmZ (rws g 8 s'.2)).2.1 (c_pos (Int.le_refl _) rfl)
  · obtain ⟨s', x, h1, h2⟩ := g_chs79 (g := g) hA hm hL ho hk hs (fun w51 w52 m53 => if aIn ((k : Int) + 1) then l_X13_chases_65 T (o : Int) kk n w51 ((k : Int) + 1) m53 else none)
    refine ⟨s', h1, ?_⟩
    show l_X13_chases_65 T (o : Int) kk (n + 1) s.1 (k : Int) (setc M 152 (rws g 8 s.2)) = l_X13_chases_65 T (o : Int) kk n s'.1 ((k + 1 : Nat) : Int) (setc M 152 (rws g 8 s'.2))
    rw [l_X13_chases_65, (hmZ (rws g 8 s.2)).1, Int.toNat_natCast, (hmZ (rws g 8 s.2)).2.2.1.2.2.2.1]
    refine c_ite (hmZ (rws g 8 s.2)).2.1 (c_neg (by omega) (h2.trans ?_))
    exact c_ite (by omega) rfl
theorem g_chs52 (hA : WF A) (hm : MV T M w A) (hL : LM M A dr) (hV : tr2 A dr V0) (kk : Int → Int → aM → Option (Int × aM)) : ∃ s', PR A dr V0 (fun _ _ _ => True) s' ∧ l_X13_chases_52 T kk FU 0 0 (setc M 152 (rws g 8 V0)) = kk s'.1 (A 0 1) (setc M 152 (rws g 8 s'.2)) := by
  have h8 := hA.1.2.1
  have hmZ : ∀ f, MV T (setc M 152 f) w A := fun f => mv_ne hm (by decide) f
  have keyI := for_inv (fun n o (s : Int × (Nat → Nat → Nat)) => l_X13_chases_52 T kk n s.1 (o : Int) (setc M 152 (rws g 8 s.2))) (fun o s => PR A dr V0 (th3 o 0 0) s) (A 0 1) (fun o n s ho hs => ?_) (by omega) (0, V0) ⟨fun _ _ => Nat.le_refl _, hV, Or.inl ⟨rfl, fun _ _ => rfl⟩, fun a c x _ _ _ _ _ hq => by unfold th3 at hq; omega⟩
  · obtain ⟨s', h1, n, hl⟩ := keyI
    refine ⟨s', h1.mono (fun a c x ha _ _ hac hq => by unfold th3; omega), ?_⟩
    have e : l_X13_chases_52 T kk FU 0 0 (setc M 152 (rws g 8 V0)) = l_X13_chases_52 T kk (n + 1) s'.1 ((A 0 1 : Nat) : Int) (setc M 152 (rws g 8 s'.2)) := hl
    rw [e, l_X13_chases_52, (hmZ (rws g 8 s'.2)).1, Int.toNat_natCast, (hmZ (rws g 8 s'.2)).2.2.1.2.2.2.1]
    exact c_ite (hmZ (rws g 8 s'.2)).2.1 (c_pos (Int.le_refl _) rfl)
  · obtain ⟨s', h1, h2⟩ := g_chs65 (g := g) hA hm hL ho hs (fun w56 w57 m59 => if aIn ((o : Int) + 1) then l_X13_chases_52 T kk n w56 ((o : Int) + 1) m59 else none)
    refine ⟨s', h1, ?_⟩
    show l_X13_chases_52 T kk (n + 1) s.1 (o : Int) (setc M 152 (rws g 8 s.2)) = l_X13_chases_52 T kk n s'.1 ((o + 1 : Nat) : Int) (setc M 152 (rws g 8 s'.2))
    rw [l_X13_chases_52, (hmZ (rws g 8 s.2)).1, Int.toNat_natCast, (hmZ (rws g 8 s.2)).2.2.1.2.2.2.1]
    refine c_ite (hmZ (rws g 8 s.2)).2.1 (c_neg (by omega) (h2.trans ?_))
    exact c_ite (by omega) rfl
end Pass
/-- what a pass settles -/
theorem PR.next {V0 : Nat → Nat → Nat} {s : Int × (Nat → Nat → Nat)} (h : PR A dr V0 (fun _ _ _ => True) s) {i : Nat} (hset : ∀ a c, a < A 0 1 → c < A 0 1 → chW A dr i a c = true → V0 a c ≤ i) : ∀ a c, a < A 0 1 → c < A 0 1 → chW A dr (i + 1) a c = true → s.2 a c ≤ i + 1 := by
  intro a c ha hc hW
  rcases (chW_iff i a c).mp hW with hW | ⟨t, ht, har, h3⟩
  · have := hset a c ha hc hW
    have := h.1 a c
    omega
  · by_cases hac : a = c
    · subst hac
      rw [h.2.1.2.2 a]; omega
    · have h4 := h.2.2.2 a c t ha hc ht hac har trivial
      have h5 : wst A dr V0 t c ≤ i := by
        unfold wst
        split
        · exact Nat.zero_le _
        · rename_i htc
          refine wsx_le _ fun x hx hax => hset t x ht hx ?_
          rcases h3 with h3 | h3
          · exact absurd h3 htc
          · exact h3 x hx hax
      omega
theorem g_chases (h : MD T M A S) (hw : MV T M w A) : ∃ Z, f_X13_chases T M = some (0, Z) ∧ sM M Z ∧ MV T Z w A ∧ LM Z A (dS S) ∧ ∀ a c, a < A 0 1 → c < A 0 1 → Z 152 (8 * a + c) = ((cap 9999 (gng A (dS S) a c) : Nat) : Int) := by
  have hA := h.1
  have h8 := hA.1.2.1
  have hk := h.mk hw
  have hs1 := sM_works (M := M) (A := A) (dr := dS S)
  have hworks := h.works hw
  generalize worksM M A (dS S) = M1 at hk hs1 hworks
  have hm := hk.1
  have hL := hk.2.1
  have ht0 : tr2 A (dS S) (fun a b => if a = b then 0 else 9999) := by
    refine ⟨fun a c => ?_, fun a c => ?_, fun a => if_pos rfl⟩
    · show (if a = c then 0 else 9999) ≤ 9999
      split <;> omega
    · show (if a = c then 0 else 9999) < 9999 → chW A (dS S) (if a = c then 0 else 9999) a c = true
      split
      · rename_i e; intro _; exact decide_eq_true e
      · intro e; omega
  have keyI := while_inv (fun n i (s : Int × (Nat → Nat → Nat)) => l_X13_chases_44 T (fun w68 m72 => some (0, m72)) n s.1 (setc M1 152 (rws (M1 152) 8 s.2))) (fun i s => tr2 A (dS S) s.2 ∧ (∀ k, k ≤ i → ∀ a c, a < A 0 1 → c < A 0 1 → chW A (dS S) k a c = true → s.2 a c ≤ k) ∧ (s.1 = 0 ∨ s.1 = 1) ∧ (s.1 = 0 → ∀ k a c, a < A 0 1 → c < A 0 1 → chW A (dS S) k a c = true → s.2 a c ≤ k) ∧ (65 ≤ i → s.1 = 0)) (fun i s => s.1 = 0) 65 (by decide) (fun i n s hR hn => ?_) (fun i s hi hR => hR.2.2.2.2 hi) (1, fun a b => if a = b then 0 else 9999) ⟨ht0, fun k hk a c ha hc e => ?_, Or.inr rfl, fun e => absurd e (show ¬ ((1 : Int) = 0) by decide), fun e => by omega⟩
  · obtain ⟨q, s, n, ⟨⟨t1, t2, t3⟩, -, hf, hset, -⟩, hstop, hl⟩ := keyI
    refine ⟨setc M1 152 (rws (M1 152) 8 s.2), ?_, hs1.trans (sM_set (by decide)), mv_ne hm (by decide) _, ?_, fun a c ha hc => ?_⟩
    · unfold f_X13_chases
      refine c_bind hworks ((g_chs6 (M := M1) _).trans ?_)
      have e : l_X13_chases_44 T (fun w68 m72 => some (0, m72)) FU 1 (setc M1 152 (rws (M1 152) 8 (fun a b => if a = b then 0 else 9999))) = l_X13_chases_44 T (fun w68 m72 => some (0, m72)) (n + 1) s.1 (setc M1 152 (rws (M1 152) 8 s.2)) := hl
      refine e.trans ?_
      rw [l_X13_chases_44]
      exact c_pos hstop rfl
    · unfold LM
      rw [setc_ne (by decide), setc_ne (by decide)]
      exact hL
    · rw [setc_at, rws_at (by omega) (by omega)]
      refine congrArg (fun q : Nat => (q : Int)) ?_
      have hb := t1 a c
      unfold cap
      by_cases hg : gng A (dS S) a c < 64
      · rw [if_pos hg]
        have h1 := hset hstop _ a c ha hc (gng_is hg)
        have h2 := gng_of (t2 a c (by omega))
        omega
      · rw [if_neg hg]
        by_cases h9 : s.2 a c < 9999
        · exact absurd (gng_lt hA ha hc (t2 a c h9)) hg
        · omega
  · obtain ⟨hR1, hR2, hR3, -, -⟩ := hR
    obtain ⟨s', h1, h2⟩ := g_chs52 (g := M1 152) hA hm hL hR1 (fun w62 w63 m66 => l_X13_chases_44 T (fun w68 m72 => some (0, m72)) n w62 m66)
    have hnx : ∀ k, k ≤ i + 1 → ∀ a c, a < A 0 1 → c < A 0 1 → chW A (dS S) k a c = true → s'.2 a c ≤ k := by
      intro k hk a c ha hc e
      by_cases hki : k ≤ i
      · exact Nat.le_trans (h1.1 a c) (hR2 k hki a c ha hc e)
      · have : k = i + 1 := by omega
        subst this
        exact h1.next (hR2 i (Nat.le_refl _)) a c ha hc e
    refine ⟨s', ⟨h1.2.1, hnx, ?_, fun hs0 k => ?_, fun hi => ?_⟩, ?_⟩
    · rcases h1.2.2.1 with e | e
      · exact Or.inl e.1
      · exact Or.inr e.1
    · rcases h1.2.2.1 with ⟨-, e⟩ | ⟨e, -⟩
      · induction k with
        | zero =>
          intro a c ha hc hW
          exact hnx 0 (by omega) a c ha hc hW
        | succ k ih =>
          exact h1.next (fun a c ha hc hW => by rw [← e a c]; exact ih a c ha hc hW)
      · rw [hs0] at e; exact absurd e (by decide)
    · rcases h1.2.2.1 with ⟨e, -⟩ | ⟨-, a, c, ha, hc, e⟩
      · exact e
      · exfalso
        have b0 := hR1.1 a c
        have h3 := h1.2.1.2.1 a c (by omega)
        have h4 := gng_of h3
        have h5 := gng_lt hA ha hc h3
        have h6 := hR2 (gng A (dS S) a c) (by omega) a c ha hc (gng_is h5)
        omega
    · show l_X13_chases_44 T _ (n + 1) s.1 _ = l_X13_chases_44 T _ n s'.1 _
      rw [l_X13_chases_44]
      exact c_neg hn h2
  · have hk0 : k = 0 := by omega
    subst hk0
    show (if a = c then 0 else 9999) ≤ 0
    rw [if_pos (of_decide_eq_true e)]
    exact Nat.le_refl _
theorem m_chase (h : MD T M A S) (o v : Int) : opM (f_X13_chase T o v M) M (sp_chase A S o v) := by
  have hA := h.1
  have h8 := hA.1.2.1
  unfold f_X13_chase sp_chase
  refine oM_bind rfl ?_
  have h1 : sM M (aup M 138 0 0) := sM_fl (by omega)
  have hm1 := h.of h1
  refine oM_isCave hm1 (fun hn => ?_) (fun o' ho hlt => ?_)
  · rw [gd_neg (fun h => hn h.1)]; exact oM_ref h1
  · refine oM_isCave hm1 (fun hn => ?_) (fun v' hv hlt2 => ?_)
    · rw [gd_neg (fun h => hn h.2)]; exact oM_ref h1
    · subst ho hv
      rw [gd_pos ⟨inr_of hlt, inr_of hlt2⟩, Int.toNat_natCast, Int.toNat_natCast]
      obtain ⟨w, hw⟩ := hm1.has (by omega)
      obtain ⟨Z, e1, e2, -, -, e5⟩ := g_chases hm1 hw
      refine oM_bind e1 (oM_pos (by omega) (oM_pos (by omega) (oM_pos (by omega) ?_)))
      rw [show (8 * (o' : Int) + (v' : Int)).toNat = 8 * o' + v' by omega]
      show opM ((f_X13_told T (Z 152 (8 * o' + v')) Z).bind fun x20 => (f_X13_good T x20 Z).bind fun x22 => some (x22.1, x22.2)) M _
      rw [e5 o' v' hlt hlt2]
      refine oM_bind (g_told _) ?_
      have : tol (cap 9999 (gng A (dS S) o' v')) = bq6 (gng A (dS S) o' v') := by
        unfold tol cap bq6
        by_cases hg : gng A (dS S) o' v' < 64
        · rw [if_pos hg, if_pos hg, if_pos (by omega)]
        · rw [if_neg hg, if_neg hg, if_neg (by decide)]
      rw [this]
      exact oM_good (h1.trans e2)
theorem m_chaseBy (h : MD T M A S) (o v : Int) : opM (f_X13_chaseBy T o v M) M (sp_chaseBy A S o v) := by
  have hA := h.1
  have h8 := hA.1.2.1
  unfold f_X13_chaseBy sp_chaseBy
  refine oM_bind rfl ?_
  have h1 : sM M (aup M 138 0 0) := sM_fl (by omega)
  have hm1 := h.of h1
  refine oM_isCave hm1 (fun hn => ?_) (fun o' ho hlt => ?_)
  · rw [gd_neg (fun h => hn h.1)]; exact oM_ref h1
  · refine oM_isCave hm1 (fun hn => ?_) (fun v' hv hlt2 => ?_)
    · rw [gd_neg (fun h => hn h.2)]; exact oM_ref h1
    · subst ho hv
      rw [gd_pos ⟨inr_of hlt, inr_of hlt2⟩, Int.toNat_natCast, Int.toNat_natCast]
      obtain ⟨w, hw⟩ := hm1.has (by omega)
      obtain ⟨Z, e1, e2, e3, e4, e5⟩ := g_chases hm1 hw
      have hgl := gng_le (A := A) (dr := dS S) o' v'
      refine oM_bind e1 (oM_pos (by omega) (oM_pos (by omega) (oM_pos (by omega) ?_)))
      rw [show (8 * (o' : Int) + (v' : Int)).toNat = 8 * o' + v' by omega]
      have hok := e5 o' v' hlt hlt2
      have hsM := h1.trans e2
      have hwor : ∀ t, t < A 0 1 → f_X13_worst T (t : Int) (v' : Int) Z = some ((cap 9999 (wq A (dS S) t v') : Nat) : Int) := by
        intro t ht
        have h2 := g_worst (T := T) hA e3 e4 (V := fun a c => cap 9999 (gng A (dS S) a c)) (o := t) (v := v') (fun x hx => e5 t x ht hx) ht hlt2
        rw [wst_map (D := gng A (dS S)) cap_0 (cap_mono (F := 9999) (by decide))] at h2
        exact h2
      show opM (if Z 152 (8 * o' + v') = 0 then (f_X13_good T (-2) Z).bind (fun x21 => some (x21.1, x21.2)) else if Z 152 (8 * o' + v') < 9999 then (f_X13_worst T (o' : Int) (v' : Int) Z).bind (fun x26 => if aIn (x26 + 1) then if (x26 + 1) = Z 152 (8 * o' + v') then (f_X13_good T (o' : Int) Z).bind (fun x46 => some (x46.1, x46.2)) else l_X13_chaseBy_82 T (o' : Int) (v' : Int) (Z 152 (8 * o' + v')) Z (fun w40 => (f_X13_good T w40 Z).bind fun x42 => some (x42.1, x42.2)) FU 0 else none) else (f_X13_good T (-2) Z).bind (fun x50 => some (x50.1, x50.2))) M _
      rw [hok]
      unfold fgo
      by_cases h64 : gng A (dS S) o' v' < 64
      · have ec : cap 9999 (gng A (dS S) o' v') = gng A (dS S) o' v' := if_pos h64
        rw [ec]
        by_cases h0 : gng A (dS S) o' v' = 0
        · rw [if_pos (Or.inl h0)]
          exact oM_pos (by omega) (oM_good hsM)
        · rw [if_neg (not_or.mpr ⟨h0, fun e => e h64⟩)]
          have hcap : ∀ t, cap 9999 (wq A (dS S) t v') ≤ 9999 := fun t => by unfold cap; split <;> omega
          have hcmp : ∀ t, (((cap 9999 (wq A (dS S) t v') : Nat) : Int) + 1 = ((gng A (dS S) o' v' : Nat) : Int) ↔ wq A (dS S) t v' + 1 = gng A (dS S) o' v') := by
            intro t
            have hw := wq_le (A := A) (dr := dS S) t v'
            have := cap_eq (F := 9999) (n := wq A (dS S) t v') (d := gng A (dS S) o' v' - 1) (by decide) hw (by omega)
            omega
          have hco := hcap o'
          refine oM_neg (by omega) (oM_pos (by omega) (oM_bind (hwor o' hlt) (oM_pos (by omega) ?_)))
          by_cases hfo : wq A (dS S) o' v' + 1 = gng A (dS S) o' v'
          · rw [if_pos hfo]
            exact oM_pos ((hcmp o').mpr hfo) (oM_good hsM)
          · rw [if_neg hfo]
            refine oM_neg (fun e => hfo ((hcmp o').mp e)) ?_
            have hex := fgp_ex hA hlt hlt2 (by omega) h64 hfo
            have hyes := fst_yes _ _ hex
            have hno := fst_no (fgp A (dS S) o' v') (A 0 1)
            have key : ∀ kk : Int → Option (Int × aM), l_X13_chaseBy_82 T (o' : Int) (v' : Int) ((gng A (dS S) o' v' : Nat) : Int) Z kk FU 0 = kk ((fst (fgp A (dS S) o' v') (A 0 1) : Nat) : Int) := by
              intro kk
              refine for_until (fun t n => l_X13_chaseBy_82 T (o' : Int) (v' : Int) ((gng A (dS S) o' v' : Nat) : Int) Z kk n (t : Int)) (fst (fgp A (dS S) o' v') (A 0 1)) (fun t n ht => ?_) (fun n => ?_) (by omega)
              · have hp := hno t ht
                have hct := hcap t
                show l_X13_chaseBy_82 T (o' : Int) (v' : Int) _ Z kk (n + 1) (t : Int) = l_X13_chaseBy_82 T (o' : Int) (v' : Int) _ Z kk n ((t + 1 : Nat) : Int)
                rw [l_X13_chaseBy_82, Int.toNat_natCast, e4.1 o' (by omega)]
                refine c_ite (by omega) (c_bind (h_bit (Nat.lt_trans (nr_lt A (dS S) o') (by decide)) (by omega)) ?_)
                rw [nr_bit hA]
                cases ha : adj A (dS S) o' t
                · exact c_pos rfl (c_ite (by omega) rfl)
                · unfold fgp at hp
                  rw [ha, Bool.true_and, decide_eq_false_iff_not] at hp
                  exact c_neg (by decide) (c_bind (hwor t (by omega)) (c_ite (by omega) (c_neg (fun e => hp ((hcmp t).mp e)) (c_ite (by omega) rfl))))
              · show l_X13_chaseBy_82 T (o' : Int) (v' : Int) _ Z kk (n + 1) ((fst (fgp A (dS S) o' v') (A 0 1) : Nat) : Int) = _
                generalize fst (fgp A (dS S) o' v') (A 0 1) = t at hex hyes ⊢
                have hct := hcap t
                unfold fgp at hyes
                rw [Bool.and_eq_true, decide_eq_true_eq] at hyes
                rw [l_X13_chaseBy_82, Int.toNat_natCast, e4.1 o' (by omega)]
                refine c_ite (by omega) (c_bind (h_bit (Nat.lt_trans (nr_lt A (dS S) o') (by decide)) (by omega)) ?_)
                rw [nr_bit hA, hyes.1]
                exact c_neg (by decide) (c_bind (hwor t hex) (c_ite (by omega) (c_pos ((hcmp t).mpr hyes.2) rfl)))
            rw [key]
            exact oM_good hsM
      · have ec : cap 9999 (gng A (dS S) o' v') = 9999 := if_neg h64
        rw [ec, if_pos (Or.inr h64)]
        exact oM_neg (by decide) (oM_neg (by decide) (oM_good hsM))
end Chm

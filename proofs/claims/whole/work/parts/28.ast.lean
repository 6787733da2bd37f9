/-! ===== one instruction of the pure machine that goes on, and one that jumps ===== -/
section Ast
variable {p : Program} {l : Launch} {e : Env} {R : Room} {s : State} {m : MethodId} {args : Array Value} {below : List Frame} {meth : Method} {c : Code} {Q : State → Prop} {D : va_G} {cA : Nat → ClassId} {A : Nat → Prop} {ad0 : Nat → Nat} {M0 : aM} {t0 c0 u0 : Nat} {pc j d : Nat} {L S L1 S1 : List aV} {σ σ1 : aS}
def AstP (p : Program) (l : Launch) (e : Env) (R : Room) (s : State) (m : MethodId) (args : Array Value) (below : List Frame) (meth : Method) (c : Code) (Q : State → Prop) (D : va_G) (cA : Nat → ClassId) (A : Nat → Prop) (ad0 : Nat → Nat) (M0 : aM) (t0 c0 u0 pc j d : Nat) (ins : Instr) : Prop :=
  ∀ (ln ra rb rc : Nat) (L S L1 S1 : List aV) (σ σ1 : aS), decode (mC j) pc = .ok (ins, ln) → okO j (ins, ln, ra, rb, rc) → ast (ins, ln, ra, rb, rc) d L S σ = some (L1, S1, σ1) → d ≤ R.frames → 36 * d ≤ R.locals → σ1.2.2.1 ≤ c0 + R.cells → σ1.2.2.2 ≤ u0 + R.slots →
    Gw p l e R s m args below meth c Q D cA A ad0 M0 t0 c0 u0 (mL j) (pc + ln) L1 S1 σ1 → Gw p l e R s m args below meth c Q D cA A ad0 M0 t0 c0 u0 (mL j) pc L S σ
set_option maxRecDepth 100000 in
theorem as_aload_n (hC : Cx p s m args c (mC j) (mL j) (mY j).cls D cA A ad0 M0) (hini : (mY j).name = meth.name) (k : Fin 4) : AstP p l e R s m args below meth c Q D cA A ad0 M0 t0 c0 u0 pc j d (.aload_n k) := by
  intro ln ra rb rc L S L1 S1 σ σ1 hdg hok h hf hlo hcap hsl K
  obtain ⟨hln, hw⟩ := hok
  have hln : ln = _ := hln
  subst hln
  delta ast at h
  dsimp only at h
  split at h
  · split at h
    · cases h; exact k_aload_n hC _ hdg (by assumption) (by assumption) K
    · cases h
  · cases h
set_option maxRecDepth 100000 in
theorem as_aload (hC : Cx p s m args c (mC j) (mL j) (mY j).cls D cA A ad0 M0) (hini : (mY j).name = meth.name) (k : Nat) : AstP p l e R s m args below meth c Q D cA A ad0 M0 t0 c0 u0 pc j d (.aload k) := by
  intro ln ra rb rc L S L1 S1 σ σ1 hdg hok h hf hlo hcap hsl K
  obtain ⟨hln, hw⟩ := hok
  have hln : ln = _ := hln
  subst hln
  delta ast at h
  dsimp only at h
  split at h
  · split at h
    · cases h; exact k_aload hC _ hdg (by assumption) (by assumption) K
    · cases h
  · cases h
set_option maxRecDepth 100000 in
theorem as_iload_n (hC : Cx p s m args c (mC j) (mL j) (mY j).cls D cA A ad0 M0) (hini : (mY j).name = meth.name) (k : Fin 4) : AstP p l e R s m args below meth c Q D cA A ad0 M0 t0 c0 u0 pc j d (.iload_n k) := by
  intro ln ra rb rc L S L1 S1 σ σ1 hdg hok h hf hlo hcap hsl K
  obtain ⟨hln, hw⟩ := hok
  have hln : ln = _ := hln
  subst hln
  delta ast at h
  dsimp only at h
  split at h
  · cases h; exact k_iload_n hC _ hdg (by assumption) K
  · cases h
set_option maxRecDepth 100000 in
theorem as_iload (hC : Cx p s m args c (mC j) (mL j) (mY j).cls D cA A ad0 M0) (hini : (mY j).name = meth.name) (k : Nat) : AstP p l e R s m args below meth c Q D cA A ad0 M0 t0 c0 u0 pc j d (.iload k) := by
  intro ln ra rb rc L S L1 S1 σ σ1 hdg hok h hf hlo hcap hsl K
  obtain ⟨hln, hw⟩ := hok
  have hln : ln = _ := hln
  subst hln
  delta ast at h
  dsimp only at h
  split at h
  · cases h; exact k_iload hC _ hdg (by assumption) K
  · cases h
set_option maxRecDepth 100000 in
theorem as_lload_n (hC : Cx p s m args c (mC j) (mL j) (mY j).cls D cA A ad0 M0) (hini : (mY j).name = meth.name) (k : Fin 4) : AstP p l e R s m args below meth c Q D cA A ad0 M0 t0 c0 u0 pc j d (.lload_n k) := by
  intro ln ra rb rc L S L1 S1 σ σ1 hdg hok h hf hlo hcap hsl K
  obtain ⟨hln, hw⟩ := hok
  have hln : ln = _ := hln
  subst hln
  delta ast at h
  dsimp only at h
  split at h
  · cases h; exact k_lload_n hC _ hdg (by assumption) K
  · cases h
set_option maxRecDepth 100000 in
theorem as_lload (hC : Cx p s m args c (mC j) (mL j) (mY j).cls D cA A ad0 M0) (hini : (mY j).name = meth.name) (k : Nat) : AstP p l e R s m args below meth c Q D cA A ad0 M0 t0 c0 u0 pc j d (.lload k) := by
  intro ln ra rb rc L S L1 S1 σ σ1 hdg hok h hf hlo hcap hsl K
  obtain ⟨hln, hw⟩ := hok
  have hln : ln = _ := hln
  subst hln
  delta ast at h
  dsimp only at h
  split at h
  · cases h; exact k_lload hC _ hdg (by assumption) K
  · cases h
set_option maxRecDepth 100000 in
theorem as_astore_n (hC : Cx p s m args c (mC j) (mL j) (mY j).cls D cA A ad0 M0) (hini : (mY j).name = meth.name) (k : Fin 4) : AstP p l e R s m args below meth c Q D cA A ad0 M0 t0 c0 u0 pc j d (.astore_n k) := by
  intro ln ra rb rc L S L1 S1 σ σ1 hdg hok h hf hlo hcap hsl K
  obtain ⟨hln, hw⟩ := hok
  have hln : ln = _ := hln
  subst hln
  delta ast at h
  dsimp only at h
  split at h
  · split at h
    · cases h; rename_i hq; exact k_astore_n hC _ hdg hq.1 hq.2 K
    · cases h
  · cases h
set_option maxRecDepth 100000 in
theorem as_astore (hC : Cx p s m args c (mC j) (mL j) (mY j).cls D cA A ad0 M0) (hini : (mY j).name = meth.name) (k : Nat) : AstP p l e R s m args below meth c Q D cA A ad0 M0 t0 c0 u0 pc j d (.astore k) := by
  intro ln ra rb rc L S L1 S1 σ σ1 hdg hok h hf hlo hcap hsl K
  obtain ⟨hln, hw⟩ := hok
  have hln : ln = _ := hln
  subst hln
  delta ast at h
  dsimp only at h
  split at h
  · split at h
    · cases h; rename_i hq; exact k_astore hC _ hdg hq.1 hq.2 K
    · cases h
  · cases h
set_option maxRecDepth 100000 in
theorem as_istore_n (hC : Cx p s m args c (mC j) (mL j) (mY j).cls D cA A ad0 M0) (hini : (mY j).name = meth.name) (k : Fin 4) : AstP p l e R s m args below meth c Q D cA A ad0 M0 t0 c0 u0 pc j d (.istore_n k) := by
  intro ln ra rb rc L S L1 S1 σ σ1 hdg hok h hf hlo hcap hsl K
  obtain ⟨hln, hw⟩ := hok
  have hln : ln = _ := hln
  subst hln
  delta ast at h
  dsimp only at h
  split at h
  · split at h
    · cases h; exact k_istore_n hC _ hdg (by assumption) K
    · cases h
  · cases h
set_option maxRecDepth 100000 in
theorem as_istore (hC : Cx p s m args c (mC j) (mL j) (mY j).cls D cA A ad0 M0) (hini : (mY j).name = meth.name) (k : Nat) : AstP p l e R s m args below meth c Q D cA A ad0 M0 t0 c0 u0 pc j d (.istore k) := by
  intro ln ra rb rc L S L1 S1 σ σ1 hdg hok h hf hlo hcap hsl K
  obtain ⟨hln, hw⟩ := hok
  have hln : ln = _ := hln
  subst hln
  delta ast at h
  dsimp only at h
  split at h
  · split at h
    · cases h; exact k_istore hC _ hdg (by assumption) K
    · cases h
  · cases h
set_option maxRecDepth 100000 in
theorem as_lstore_n (hC : Cx p s m args c (mC j) (mL j) (mY j).cls D cA A ad0 M0) (hini : (mY j).name = meth.name) (k : Fin 4) : AstP p l e R s m args below meth c Q D cA A ad0 M0 t0 c0 u0 pc j d (.lstore_n k) := by
  intro ln ra rb rc L S L1 S1 σ σ1 hdg hok h hf hlo hcap hsl K
  obtain ⟨hln, hw⟩ := hok
  have hln : ln = _ := hln
  subst hln
  delta ast at h
  dsimp only at h
  split at h
  · split at h
    · cases h; exact k_lstore_n hC _ hdg (by assumption) K
    · cases h
  · cases h
set_option maxRecDepth 100000 in
theorem as_lstore (hC : Cx p s m args c (mC j) (mL j) (mY j).cls D cA A ad0 M0) (hini : (mY j).name = meth.name) (k : Nat) : AstP p l e R s m args below meth c Q D cA A ad0 M0 t0 c0 u0 pc j d (.lstore k) := by
  intro ln ra rb rc L S L1 S1 σ σ1 hdg hok h hf hlo hcap hsl K
  obtain ⟨hln, hw⟩ := hok
  have hln : ln = _ := hln
  subst hln
  delta ast at h
  dsimp only at h
  split at h
  · split at h
    · cases h; exact k_lstore hC _ hdg (by assumption) K
    · cases h
  · cases h
set_option maxRecDepth 100000 in
theorem as_iinc (hC : Cx p s m args c (mC j) (mL j) (mY j).cls D cA A ad0 M0) (hini : (mY j).name = meth.name) (i : Nat) (n : Int) : AstP p l e R s m args below meth c Q D cA A ad0 M0 t0 c0 u0 pc j d (.iinc i n) := by
  intro ln ra rb rc L S L1 S1 σ σ1 hdg hok h hf hlo hcap hsl K
  obtain ⟨hln, hw⟩ := hok
  have hln : ln = _ := hln
  subst hln
  delta ast at h
  dsimp only at h
  split at h
  · split at h
    · rename_i hg hq; cases h; exact k_iinc hC i n hdg hq.1 hg hq.2.2 K
    · cases h
  · cases h
set_option maxRecDepth 100000 in
theorem as_iconst (hC : Cx p s m args c (mC j) (mL j) (mY j).cls D cA A ad0 M0) (hini : (mY j).name = meth.name) (n : Int) : AstP p l e R s m args below meth c Q D cA A ad0 M0 t0 c0 u0 pc j d (.iconst n) := by
  intro ln ra rb rc L S L1 S1 σ σ1 hdg hok h hf hlo hcap hsl K
  obtain ⟨hln, hw⟩ := hok
  have hln : ln = _ := hln
  subst hln
  delta ast at h
  dsimp only at h
  split at h
  · cases h; exact k_iconst hC n (by assumption) hdg K
  · cases h
set_option maxRecDepth 100000 in
theorem as_bipush (hC : Cx p s m args c (mC j) (mL j) (mY j).cls D cA A ad0 M0) (hini : (mY j).name = meth.name) (n : Int) : AstP p l e R s m args below meth c Q D cA A ad0 M0 t0 c0 u0 pc j d (.bipush n) := by
  intro ln ra rb rc L S L1 S1 σ σ1 hdg hok h hf hlo hcap hsl K
  obtain ⟨hln, hw⟩ := hok
  have hln : ln = _ := hln
  subst hln
  delta ast at h
  dsimp only at h
  split at h
  · cases h; exact k_bipush hC n (by assumption) hdg K
  · cases h
set_option maxRecDepth 100000 in
theorem as_sipush (hC : Cx p s m args c (mC j) (mL j) (mY j).cls D cA A ad0 M0) (hini : (mY j).name = meth.name) (n : Int) : AstP p l e R s m args below meth c Q D cA A ad0 M0 t0 c0 u0 pc j d (.sipush n) := by
  intro ln ra rb rc L S L1 S1 σ σ1 hdg hok h hf hlo hcap hsl K
  obtain ⟨hln, hw⟩ := hok
  have hln : ln = _ := hln
  subst hln
  delta ast at h
  dsimp only at h
  split at h
  · cases h; exact k_sipush hC n (by assumption) hdg K
  · cases h
set_option maxRecDepth 100000 in
theorem as_lconst (hC : Cx p s m args c (mC j) (mL j) (mY j).cls D cA A ad0 M0) (hini : (mY j).name = meth.name) (n : Fin 2) : AstP p l e R s m args below meth c Q D cA A ad0 M0 t0 c0 u0 pc j d (.lconst n) := by
  intro ln ra rb rc L S L1 S1 σ σ1 hdg hok h hf hlo hcap hsl K
  obtain ⟨hln, hw⟩ := hok
  have hln : ln = _ := hln
  subst hln
  delta ast at h
  dsimp only at h
  cases h; exact k_lconst hC n hdg K
set_option maxRecDepth 100000 in
theorem as_ldc (hC : Cx p s m args c (mC j) (mL j) (mY j).cls D cA A ad0 M0) (hini : (mY j).name = meth.name) (i : Nat) : AstP p l e R s m args below meth c Q D cA A ad0 M0 t0 c0 u0 pc j d (.ldc i) := by
  intro ln ra rb rc L S L1 S1 σ σ1 hdg hok h hf hlo hcap hsl K
  obtain ⟨hln, hw⟩ := hok
  have hln : ln = _ := hln
  subst hln
  delta ast at h
  dsimp only at h
  split at h
  · rename_i h0
    simp only [okO, h0, if_true] at hw
    split at h
    · cases h; exact k_ldc hC i rb (by assumption) hw hdg K
    · cases h
  · rename_i h0
    simp only [okO, h0, if_false] at hw
    obtain ⟨tx, hw⟩ := hw
    cases h; exact k_ldcS hC i rb hw hdg K
set_option maxRecDepth 100000 in
theorem as_ldc_w (hC : Cx p s m args c (mC j) (mL j) (mY j).cls D cA A ad0 M0) (hini : (mY j).name = meth.name) (i : Nat) : AstP p l e R s m args below meth c Q D cA A ad0 M0 t0 c0 u0 pc j d (.ldc_w i) := by
  intro ln ra rb rc L S L1 S1 σ σ1 hdg hok h hf hlo hcap hsl K
  obtain ⟨hln, hw⟩ := hok
  have hln : ln = _ := hln
  subst hln
  delta ast at h
  dsimp only at h
  split at h
  · rename_i h0
    simp only [okO, h0, if_true] at hw
    split at h
    · cases h; exact k_ldc_w hC i rb (by assumption) hw hdg K
    · cases h
  · rename_i h0
    simp only [okO, h0, if_false] at hw
    obtain ⟨tx, hw⟩ := hw
    cases h; exact k_ldcSW hC i rb hw hdg K
set_option maxRecDepth 100000 in
theorem as_ldc2_w (hC : Cx p s m args c (mC j) (mL j) (mY j).cls D cA A ad0 M0) (hini : (mY j).name = meth.name) (i : Nat) : AstP p l e R s m args below meth c Q D cA A ad0 M0 t0 c0 u0 pc j d (.ldc2_w i) := by
  intro ln ra rb rc L S L1 S1 σ σ1 hdg hok h hf hlo hcap hsl K
  obtain ⟨hln, hw⟩ := hok
  have hln : ln = _ := hln
  subst hln
  delta ast at h
  dsimp only at h
  split at h
  · cases h; exact k_ldc2_w hC i _ (by split <;> omega) hw hdg K
  · cases h
set_option maxRecDepth 100000 in
theorem as_getstatic (hC : Cx p s m args c (mC j) (mL j) (mY j).cls D cA A ad0 M0) (hini : (mY j).name = meth.name) (i : Nat) : AstP p l e R s m args below meth c Q D cA A ad0 M0 t0 c0 u0 pc j d (.getstatic i) := by
  intro ln ra rb rc L S L1 S1 σ σ1 hdg hok h hf hlo hcap hsl K
  obtain ⟨hln, hw⟩ := hok
  have hln : ln = _ := hln
  subst hln
  delta ast at h
  dsimp only at h
  cases h; exact k_getstatic hC i hw hdg K
set_option maxRecDepth 100000 in
theorem as_getfield (hC : Cx p s m args c (mC j) (mL j) (mY j).cls D cA A ad0 M0) (hini : (mY j).name = meth.name) (i : Nat) : AstP p l e R s m args below meth c Q D cA A ad0 M0 t0 c0 u0 pc j d (.getfield i) := by
  intro ln ra rb rc L S L1 S1 σ σ1 hdg hok h hf hlo hcap hsl K
  obtain ⟨hln, hw⟩ := hok
  have hln : ln = _ := hln
  subst hln
  delta ast at h
  dsimp only at h
  split at h
  · split at h
    · rename_i hr; cases h
      obtain ⟨hci, hk, hw⟩ := hw
      obtain ⟨C, T, N, ty0, c1, c2, c3, c4, c5, c6⟩ := okCl_all ra hci
      exact k_getfield hC i ra rb c1 c2 (c2 ▸ hk) (by omega) c3 (hw C T N c1) hdg hr K
    · cases h
  · cases h
set_option maxRecDepth 100000 in
theorem as_putfield (hC : Cx p s m args c (mC j) (mL j) (mY j).cls D cA A ad0 M0) (hini : (mY j).name = meth.name) (i : Nat) : AstP p l e R s m args below meth c Q D cA A ad0 M0 t0 c0 u0 pc j d (.putfield i) := by
  intro ln ra rb rc L S L1 S1 σ σ1 hdg hok h hf hlo hcap hsl K
  obtain ⟨hln, hw⟩ := hok
  have hln : ln = _ := hln
  subst hln
  delta ast at h
  dsimp only at h
  split at h
  · split at h
    · rename_i hr; cases h
      obtain ⟨hci, hk, hw⟩ := hw
      obtain ⟨C, T, N, ty0, c1, c2, c3, c4, c5, c6⟩ := okCl_all ra hci
      have hk1 : rb < N := c2 ▸ hk
      obtain ⟨rfl, hr⟩ := hr
      refine k_putfield hC i ra rb c1 c2 hk1 (by omega) c3 ty0 c4 c5 (c6 rb hk1) ?_ hdg hr K
      rcases hw C T N c1 with ⟨w1, w2 | w2⟩ | w
      · exact Or.inl ⟨w1, Or.inl w2⟩
      · exact Or.inl ⟨w1, Or.inr ⟨w2.1, hini ▸ w2.2.1, w2.2.2⟩⟩
      · exact Or.inr w
    · cases h
  · cases h
set_option maxRecDepth 100000 in
theorem as_iaload (hC : Cx p s m args c (mC j) (mL j) (mY j).cls D cA A ad0 M0) (hini : (mY j).name = meth.name) : AstP p l e R s m args below meth c Q D cA A ad0 M0 t0 c0 u0 pc j d (.iaload) := by
  intro ln ra rb rc L S L1 S1 σ σ1 hdg hok h hf hlo hcap hsl K
  obtain ⟨hln, hw⟩ := hok
  have hln : ln = _ := hln
  subst hln
  delta ast at h
  dsimp only at h
  split at h
  · split at h
    · rename_i hr; cases h; exact k_iaload hC hdg hr.1 hr.2.1 hr.2.2 K
    · cases h
  · cases h
set_option maxRecDepth 100000 in
theorem as_baload (hC : Cx p s m args c (mC j) (mL j) (mY j).cls D cA A ad0 M0) (hini : (mY j).name = meth.name) : AstP p l e R s m args below meth c Q D cA A ad0 M0 t0 c0 u0 pc j d (.baload) := by
  intro ln ra rb rc L S L1 S1 σ σ1 hdg hok h hf hlo hcap hsl K
  obtain ⟨hln, hw⟩ := hok
  have hln : ln = _ := hln
  subst hln
  delta ast at h
  dsimp only at h
  split at h
  · split at h
    · rename_i hr; cases h; exact k_baload hC hdg hr.1 hr.2.1 hr.2.2 K
    · cases h
  · cases h
set_option maxRecDepth 100000 in
theorem as_laload (hC : Cx p s m args c (mC j) (mL j) (mY j).cls D cA A ad0 M0) (hini : (mY j).name = meth.name) : AstP p l e R s m args below meth c Q D cA A ad0 M0 t0 c0 u0 pc j d (.laload) := by
  intro ln ra rb rc L S L1 S1 σ σ1 hdg hok h hf hlo hcap hsl K
  obtain ⟨hln, hw⟩ := hok
  have hln : ln = _ := hln
  subst hln
  delta ast at h
  dsimp only at h
  split at h
  · split at h
    · rename_i hr; cases h; exact k_laload hC hdg hr.1 hr.2.1 hr.2.2 K
    · cases h
  · cases h
set_option maxRecDepth 100000 in
theorem as_aaload (hC : Cx p s m args c (mC j) (mL j) (mY j).cls D cA A ad0 M0) (hini : (mY j).name = meth.name) : AstP p l e R s m args below meth c Q D cA A ad0 M0 t0 c0 u0 pc j d (.aaload) := by
  intro ln ra rb rc L S L1 S1 σ σ1 hdg hok h hf hlo hcap hsl K
  obtain ⟨hln, hw⟩ := hok
  have hln : ln = _ := hln
  subst hln
  delta ast at h
  dsimp only at h
  split at h
  · split at h
    · rename_i hr; cases h; exact k_aaload hC hdg hr.1 hr.2.1 hr.2.2 K
    · cases h
  · cases h
set_option maxRecDepth 100000 in
theorem as_iastore (hC : Cx p s m args c (mC j) (mL j) (mY j).cls D cA A ad0 M0) (hini : (mY j).name = meth.name) : AstP p l e R s m args below meth c Q D cA A ad0 M0 t0 c0 u0 pc j d (.iastore) := by
  intro ln ra rb rc L S L1 S1 σ σ1 hdg hok h hf hlo hcap hsl K
  obtain ⟨hln, hw⟩ := hok
  have hln : ln = _ := hln
  subst hln
  delta ast at h
  dsimp only at h
  split at h
  · split at h
    · rename_i hr; cases h; exact k_iastore hC hdg hr.1 hr.2.1 hr.2.2 K
    · cases h
  · cases h
set_option maxRecDepth 100000 in
theorem as_bastore (hC : Cx p s m args c (mC j) (mL j) (mY j).cls D cA A ad0 M0) (hini : (mY j).name = meth.name) : AstP p l e R s m args below meth c Q D cA A ad0 M0 t0 c0 u0 pc j d (.bastore) := by
  intro ln ra rb rc L S L1 S1 σ σ1 hdg hok h hf hlo hcap hsl K
  obtain ⟨hln, hw⟩ := hok
  have hln : ln = _ := hln
  subst hln
  delta ast at h
  dsimp only at h
  split at h
  · split at h
    · rename_i hr; cases h; exact k_bastore hC hdg hr.1 hr.2.1 hr.2.2.1 hr.2.2.2.1 hr.2.2.2.2 K
    · cases h
  · cases h
set_option maxRecDepth 100000 in
theorem as_lastore (hC : Cx p s m args c (mC j) (mL j) (mY j).cls D cA A ad0 M0) (hini : (mY j).name = meth.name) : AstP p l e R s m args below meth c Q D cA A ad0 M0 t0 c0 u0 pc j d (.lastore) := by
  intro ln ra rb rc L S L1 S1 σ σ1 hdg hok h hf hlo hcap hsl K
  obtain ⟨hln, hw⟩ := hok
  have hln : ln = _ := hln
  subst hln
  delta ast at h
  dsimp only at h
  split at h
  · split at h
    · rename_i hr; cases h; exact k_lastore hC hdg hr.1 hr.2.1 hr.2.2 K
    · cases h
  · cases h
set_option maxRecDepth 100000 in
theorem as_aastore (hC : Cx p s m args c (mC j) (mL j) (mY j).cls D cA A ad0 M0) (hini : (mY j).name = meth.name) : AstP p l e R s m args below meth c Q D cA A ad0 M0 t0 c0 u0 pc j d (.aastore) := by
  intro ln ra rb rc L S L1 S1 σ σ1 hdg hok h hf hlo hcap hsl K
  obtain ⟨hln, hw⟩ := hok
  have hln : ln = _ := hln
  subst hln
  delta ast at h
  dsimp only at h
  split at h
  · split at h
    · rename_i hr; cases h; exact k_aastore hC hdg hr.1 hr.2.1 hr.2.2.1 hr.2.2.2 K
    · cases h
  · cases h
set_option maxRecDepth 100000 in
theorem as_arraylength (hC : Cx p s m args c (mC j) (mL j) (mY j).cls D cA A ad0 M0) (hini : (mY j).name = meth.name) : AstP p l e R s m args below meth c Q D cA A ad0 M0 t0 c0 u0 pc j d (.arraylength) := by
  intro ln ra rb rc L S L1 S1 σ σ1 hdg hok h hf hlo hcap hsl K
  obtain ⟨hln, hw⟩ := hok
  have hln : ln = _ := hln
  subst hln
  delta ast at h
  dsimp only at h
  split at h
  · split at h
    · rename_i hr; cases h; exact k_arraylength hC hdg hr.1 hr.2.1 hr.2.2.1 hr.2.2.2.1 hr.2.2.2.2 K
    · cases h
  · cases h
set_option maxRecDepth 100000 in
theorem as_iadd (hC : Cx p s m args c (mC j) (mL j) (mY j).cls D cA A ad0 M0) (hini : (mY j).name = meth.name) : AstP p l e R s m args below meth c Q D cA A ad0 M0 t0 c0 u0 pc j d (.iadd) := by
  intro ln ra rb rc L S L1 S1 σ σ1 hdg hok h hf hlo hcap hsl K
  obtain ⟨hln, hw⟩ := hok
  have hln : ln = _ := hln
  subst hln
  delta ast at h
  dsimp only at h
  split at h
  · split at h
    · cases h; exact k_iadd hC hdg (by assumption) K
    · cases h
  · cases h
set_option maxRecDepth 100000 in
theorem as_isub (hC : Cx p s m args c (mC j) (mL j) (mY j).cls D cA A ad0 M0) (hini : (mY j).name = meth.name) : AstP p l e R s m args below meth c Q D cA A ad0 M0 t0 c0 u0 pc j d (.isub) := by
  intro ln ra rb rc L S L1 S1 σ σ1 hdg hok h hf hlo hcap hsl K
  obtain ⟨hln, hw⟩ := hok
  have hln : ln = _ := hln
  subst hln
  delta ast at h
  dsimp only at h
  split at h
  · split at h
    · cases h; exact k_isub hC hdg (by assumption) K
    · cases h
  · cases h
set_option maxRecDepth 100000 in
theorem as_imul (hC : Cx p s m args c (mC j) (mL j) (mY j).cls D cA A ad0 M0) (hini : (mY j).name = meth.name) : AstP p l e R s m args below meth c Q D cA A ad0 M0 t0 c0 u0 pc j d (.imul) := by
  intro ln ra rb rc L S L1 S1 σ σ1 hdg hok h hf hlo hcap hsl K
  obtain ⟨hln, hw⟩ := hok
  have hln : ln = _ := hln
  subst hln
  delta ast at h
  dsimp only at h
  split at h
  · split at h
    · cases h; exact k_imul hC hdg (by assumption) K
    · cases h
  · cases h
set_option maxRecDepth 100000 in
theorem as_idiv (hC : Cx p s m args c (mC j) (mL j) (mY j).cls D cA A ad0 M0) (hini : (mY j).name = meth.name) : AstP p l e R s m args below meth c Q D cA A ad0 M0 t0 c0 u0 pc j d (.idiv) := by
  intro ln ra rb rc L S L1 S1 σ σ1 hdg hok h hf hlo hcap hsl K
  obtain ⟨hln, hw⟩ := hok
  have hln : ln = _ := hln
  subst hln
  delta ast at h
  dsimp only at h
  split at h
  · split at h
    · cases h; exact k_idiv hC hdg (by assumption) K
    · cases h
  · cases h
set_option maxRecDepth 100000 in
theorem as_irem (hC : Cx p s m args c (mC j) (mL j) (mY j).cls D cA A ad0 M0) (hini : (mY j).name = meth.name) : AstP p l e R s m args below meth c Q D cA A ad0 M0 t0 c0 u0 pc j d (.irem) := by
  intro ln ra rb rc L S L1 S1 σ σ1 hdg hok h hf hlo hcap hsl K
  obtain ⟨hln, hw⟩ := hok
  have hln : ln = _ := hln
  subst hln
  delta ast at h
  dsimp only at h
  split at h
  · split at h
    · cases h; exact k_irem hC hdg (by assumption) K
    · cases h
  · cases h
set_option maxRecDepth 100000 in
theorem as_ladd (hC : Cx p s m args c (mC j) (mL j) (mY j).cls D cA A ad0 M0) (hini : (mY j).name = meth.name) : AstP p l e R s m args below meth c Q D cA A ad0 M0 t0 c0 u0 pc j d (.ladd) := by
  intro ln ra rb rc L S L1 S1 σ σ1 hdg hok h hf hlo hcap hsl K
  obtain ⟨hln, hw⟩ := hok
  have hln : ln = _ := hln
  subst hln
  delta ast at h
  dsimp only at h
  split at h
  · split at h
    · cases h; exact k_ladd hC hdg (by assumption) K
    · cases h
  · cases h
set_option maxRecDepth 100000 in
theorem as_lsub (hC : Cx p s m args c (mC j) (mL j) (mY j).cls D cA A ad0 M0) (hini : (mY j).name = meth.name) : AstP p l e R s m args below meth c Q D cA A ad0 M0 t0 c0 u0 pc j d (.lsub) := by
  intro ln ra rb rc L S L1 S1 σ σ1 hdg hok h hf hlo hcap hsl K
  obtain ⟨hln, hw⟩ := hok
  have hln : ln = _ := hln
  subst hln
  delta ast at h
  dsimp only at h
  split at h
  · split at h
    · cases h; exact k_lsub hC hdg (by assumption) K
    · cases h
  · cases h
set_option maxRecDepth 100000 in
theorem as_lmul (hC : Cx p s m args c (mC j) (mL j) (mY j).cls D cA A ad0 M0) (hini : (mY j).name = meth.name) : AstP p l e R s m args below meth c Q D cA A ad0 M0 t0 c0 u0 pc j d (.lmul) := by
  intro ln ra rb rc L S L1 S1 σ σ1 hdg hok h hf hlo hcap hsl K
  obtain ⟨hln, hw⟩ := hok
  have hln : ln = _ := hln
  subst hln
  delta ast at h
  dsimp only at h
  split at h
  · split at h
    · cases h; exact k_lmul hC hdg (by assumption) K
    · cases h
  · cases h
set_option maxRecDepth 100000 in
theorem as_ldiv (hC : Cx p s m args c (mC j) (mL j) (mY j).cls D cA A ad0 M0) (hini : (mY j).name = meth.name) : AstP p l e R s m args below meth c Q D cA A ad0 M0 t0 c0 u0 pc j d (.ldiv) := by
  intro ln ra rb rc L S L1 S1 σ σ1 hdg hok h hf hlo hcap hsl K
  obtain ⟨hln, hw⟩ := hok
  have hln : ln = _ := hln
  subst hln
  delta ast at h
  dsimp only at h
  split at h
  · split at h
    · cases h; exact k_ldiv hC hdg (by assumption) K
    · cases h
  · cases h
set_option maxRecDepth 100000 in
theorem as_lrem (hC : Cx p s m args c (mC j) (mL j) (mY j).cls D cA A ad0 M0) (hini : (mY j).name = meth.name) : AstP p l e R s m args below meth c Q D cA A ad0 M0 t0 c0 u0 pc j d (.lrem) := by
  intro ln ra rb rc L S L1 S1 σ σ1 hdg hok h hf hlo hcap hsl K
  obtain ⟨hln, hw⟩ := hok
  have hln : ln = _ := hln
  subst hln
  delta ast at h
  dsimp only at h
  split at h
  · split at h
    · cases h; exact k_lrem hC hdg (by assumption) K
    · cases h
  · cases h
set_option maxRecDepth 100000 in
theorem as_iand (hC : Cx p s m args c (mC j) (mL j) (mY j).cls D cA A ad0 M0) (hini : (mY j).name = meth.name) : AstP p l e R s m args below meth c Q D cA A ad0 M0 t0 c0 u0 pc j d (.iand) := by
  intro ln ra rb rc L S L1 S1 σ σ1 hdg hok h hf hlo hcap hsl K
  obtain ⟨hln, hw⟩ := hok
  have hln : ln = _ := hln
  subst hln
  delta ast at h
  dsimp only at h
  split at h
  · cases h; exact k_iand hC hdg K
  · cases h
set_option maxRecDepth 100000 in
theorem as_ior (hC : Cx p s m args c (mC j) (mL j) (mY j).cls D cA A ad0 M0) (hini : (mY j).name = meth.name) : AstP p l e R s m args below meth c Q D cA A ad0 M0 t0 c0 u0 pc j d (.ior) := by
  intro ln ra rb rc L S L1 S1 σ σ1 hdg hok h hf hlo hcap hsl K
  obtain ⟨hln, hw⟩ := hok
  have hln : ln = _ := hln
  subst hln
  delta ast at h
  dsimp only at h
  split at h
  · cases h; exact k_ior hC hdg K
  · cases h
set_option maxRecDepth 100000 in
theorem as_ixor (hC : Cx p s m args c (mC j) (mL j) (mY j).cls D cA A ad0 M0) (hini : (mY j).name = meth.name) : AstP p l e R s m args below meth c Q D cA A ad0 M0 t0 c0 u0 pc j d (.ixor) := by
  intro ln ra rb rc L S L1 S1 σ σ1 hdg hok h hf hlo hcap hsl K
  obtain ⟨hln, hw⟩ := hok
  have hln : ln = _ := hln
  subst hln
  delta ast at h
  dsimp only at h
  split at h
  · cases h; exact k_ixor hC hdg K
  · cases h
set_option maxRecDepth 100000 in
theorem as_ishl (hC : Cx p s m args c (mC j) (mL j) (mY j).cls D cA A ad0 M0) (hini : (mY j).name = meth.name) : AstP p l e R s m args below meth c Q D cA A ad0 M0 t0 c0 u0 pc j d (.ishl) := by
  intro ln ra rb rc L S L1 S1 σ σ1 hdg hok h hf hlo hcap hsl K
  obtain ⟨hln, hw⟩ := hok
  have hln : ln = _ := hln
  subst hln
  delta ast at h
  dsimp only at h
  split at h
  · cases h; exact k_ishl hC hdg K
  · cases h
set_option maxRecDepth 100000 in
theorem as_ishr (hC : Cx p s m args c (mC j) (mL j) (mY j).cls D cA A ad0 M0) (hini : (mY j).name = meth.name) : AstP p l e R s m args below meth c Q D cA A ad0 M0 t0 c0 u0 pc j d (.ishr) := by
  intro ln ra rb rc L S L1 S1 σ σ1 hdg hok h hf hlo hcap hsl K
  obtain ⟨hln, hw⟩ := hok
  have hln : ln = _ := hln
  subst hln
  delta ast at h
  dsimp only at h
  split at h
  · cases h; exact k_ishr hC hdg K
  · cases h
set_option maxRecDepth 100000 in
theorem as_iushr (hC : Cx p s m args c (mC j) (mL j) (mY j).cls D cA A ad0 M0) (hini : (mY j).name = meth.name) : AstP p l e R s m args below meth c Q D cA A ad0 M0 t0 c0 u0 pc j d (.iushr) := by
  intro ln ra rb rc L S L1 S1 σ σ1 hdg hok h hf hlo hcap hsl K
  obtain ⟨hln, hw⟩ := hok
  have hln : ln = _ := hln
  subst hln
  delta ast at h
  dsimp only at h
  split at h
  · cases h; exact k_iushr hC hdg K
  · cases h
set_option maxRecDepth 100000 in
theorem as_lcmp (hC : Cx p s m args c (mC j) (mL j) (mY j).cls D cA A ad0 M0) (hini : (mY j).name = meth.name) : AstP p l e R s m args below meth c Q D cA A ad0 M0 t0 c0 u0 pc j d (.lcmp) := by
  intro ln ra rb rc L S L1 S1 σ σ1 hdg hok h hf hlo hcap hsl K
  obtain ⟨hln, hw⟩ := hok
  have hln : ln = _ := hln
  subst hln
  delta ast at h
  dsimp only at h
  split at h
  · cases h; exact k_lcmp hC hdg K
  · cases h
set_option maxRecDepth 100000 in
theorem as_ineg (hC : Cx p s m args c (mC j) (mL j) (mY j).cls D cA A ad0 M0) (hini : (mY j).name = meth.name) : AstP p l e R s m args below meth c Q D cA A ad0 M0 t0 c0 u0 pc j d (.ineg) := by
  intro ln ra rb rc L S L1 S1 σ σ1 hdg hok h hf hlo hcap hsl K
  obtain ⟨hln, hw⟩ := hok
  have hln : ln = _ := hln
  subst hln
  delta ast at h
  dsimp only at h
  split at h
  · split at h
    · cases h; exact k_ineg hC hdg (by assumption) K
    · cases h
  · cases h
set_option maxRecDepth 100000 in
theorem as_l2i (hC : Cx p s m args c (mC j) (mL j) (mY j).cls D cA A ad0 M0) (hini : (mY j).name = meth.name) : AstP p l e R s m args below meth c Q D cA A ad0 M0 t0 c0 u0 pc j d (.l2i) := by
  intro ln ra rb rc L S L1 S1 σ σ1 hdg hok h hf hlo hcap hsl K
  obtain ⟨hln, hw⟩ := hok
  have hln : ln = _ := hln
  subst hln
  delta ast at h
  dsimp only at h
  split at h
  · split at h
    · cases h; exact k_l2i hC hdg (by assumption) K
    · cases h
  · cases h
set_option maxRecDepth 100000 in
theorem as_i2l (hC : Cx p s m args c (mC j) (mL j) (mY j).cls D cA A ad0 M0) (hini : (mY j).name = meth.name) : AstP p l e R s m args below meth c Q D cA A ad0 M0 t0 c0 u0 pc j d (.i2l) := by
  intro ln ra rb rc L S L1 S1 σ σ1 hdg hok h hf hlo hcap hsl K
  obtain ⟨hln, hw⟩ := hok
  have hln : ln = _ := hln
  subst hln
  delta ast at h
  dsimp only at h
  split at h
  · cases h; exact k_i2l hC hdg K
  · cases h
set_option maxRecDepth 100000 in
theorem as_i2b (hC : Cx p s m args c (mC j) (mL j) (mY j).cls D cA A ad0 M0) (hini : (mY j).name = meth.name) : AstP p l e R s m args below meth c Q D cA A ad0 M0 t0 c0 u0 pc j d (.i2b) := by
  intro ln ra rb rc L S L1 S1 σ σ1 hdg hok h hf hlo hcap hsl K
  obtain ⟨hln, hw⟩ := hok
  have hln : ln = _ := hln
  subst hln
  delta ast at h
  dsimp only at h
  split at h
  · cases h; exact k_i2b hC hdg K
  · cases h
set_option maxRecDepth 100000 in
theorem as_dup (hC : Cx p s m args c (mC j) (mL j) (mY j).cls D cA A ad0 M0) (hini : (mY j).name = meth.name) : AstP p l e R s m args below meth c Q D cA A ad0 M0 t0 c0 u0 pc j d (.dup) := by
  intro ln ra rb rc L S L1 S1 σ σ1 hdg hok h hf hlo hcap hsl K
  obtain ⟨hln, hw⟩ := hok
  have hln : ln = _ := hln
  subst hln
  delta ast at h
  dsimp only at h
  split at h
  · split at h
    · rename_i t v S9 ht; cases h; exact k_dup (v := (t, v)) hC hdg ht K
    · cases h
  · cases h
set_option maxRecDepth 100000 in
theorem as_pop (hC : Cx p s m args c (mC j) (mL j) (mY j).cls D cA A ad0 M0) (hini : (mY j).name = meth.name) : AstP p l e R s m args below meth c Q D cA A ad0 M0 t0 c0 u0 pc j d (.pop) := by
  intro ln ra rb rc L S L1 S1 σ σ1 hdg hok h hf hlo hcap hsl K
  obtain ⟨hln, hw⟩ := hok
  have hln : ln = _ := hln
  subst hln
  delta ast at h
  dsimp only at h
  split at h
  · split at h
    · rename_i t v S9 ht; cases h; exact k_pop (v := (t, v)) hC hdg ht K
    · cases h
  · cases h
set_option maxRecDepth 100000 in
theorem as_dup2 (hC : Cx p s m args c (mC j) (mL j) (mY j).cls D cA A ad0 M0) (hini : (mY j).name = meth.name) : AstP p l e R s m args below meth c Q D cA A ad0 M0 t0 c0 u0 pc j d (.dup2) := by
  intro ln ra rb rc L S L1 S1 σ σ1 hdg hok h hf hlo hcap hsl K
  obtain ⟨hln, hw⟩ := hok
  have hln : ln = _ := hln
  subst hln
  delta ast at h
  dsimp only at h
  split at h
  · split at h
    · rename_i t v S9 ht; subst ht; cases h; exact k_dup2l (v := (1, v)) hC hdg rfl K
    · split at h
      · split at h
        · rename_i hq; cases h; exact k_dup2 hC hdg hq.1 hq.2 K
        · cases h
      · cases h
  · cases h
set_option maxRecDepth 100000 in
theorem as_new (hC : Cx p s m args c (mC j) (mL j) (mY j).cls D cA A ad0 M0) (hini : (mY j).name = meth.name) (i : Nat) : AstP p l e R s m args below meth c Q D cA A ad0 M0 t0 c0 u0 pc j d (.new i) := by
  intro ln ra rb rc L S L1 S1 σ σ1 hdg hok h hf hlo hcap hsl K
  obtain ⟨hln, hw⟩ := hok
  have hln : ln = _ := hln
  subst hln
  delta ast at h
  dsimp only at h
  split at h
  · rename_i hr; cases h
    obtain ⟨r1, r2, r3⟩ := hr
    obtain ⟨C, T, N, ty0, c1, c2, c3, c4, c5, c6⟩ := okCl_all ra r2
    obtain ⟨w1, w2, w3⟩ := hw C T N c1
    exact k_new hC i ra c1 c2 (by omega) c3 ty0 c4 c6 w1 w2 w3 hdg r1 r3 hcap hsl K
  · cases h
set_option maxRecDepth 100000 in
theorem as_newarray (hC : Cx p s m args c (mC j) (mL j) (mY j).cls D cA A ad0 M0) (hini : (mY j).name = meth.name) (t : ArrayType) : AstP p l e R s m args below meth c Q D cA A ad0 M0 t0 c0 u0 pc j d (.newarray t) := by
  intro ln ra rb rc L S L1 S1 σ σ1 hdg hok h hf hlo hcap hsl K
  obtain ⟨hln, hw⟩ := hok
  have hln : ln = _ := hln
  subst hln
  delta ast at h
  dsimp only at h
  split at h
  · split at h
    · rename_i hr; cases h; exact k_newarray hC t ra hw.1 hw.2 hdg hr.1 hr.2.1 hr.2.2.1 hr.2.2.2.2 hcap hsl K
    · cases h
  · cases h
set_option maxRecDepth 100000 in
theorem as_anewarray (hC : Cx p s m args c (mC j) (mL j) (mY j).cls D cA A ad0 M0) (hini : (mY j).name = meth.name) (i : Nat) : AstP p l e R s m args below meth c Q D cA A ad0 M0 t0 c0 u0 pc j d (.anewarray i) := by
  intro ln ra rb rc L S L1 S1 σ σ1 hdg hok h hf hlo hcap hsl K
  obtain ⟨hln, hw⟩ := hok
  have hln : ln = _ := hln
  subst hln
  delta ast at h
  dsimp only at h
  split at h
  · split at h
    · rename_i hr; cases h; exact k_anewarray hC i hw hdg hr.1 hr.2.1 hr.2.2.1 hr.2.2.2 hcap hsl K
    · cases h
  · cases h
set_option maxRecDepth 100000 in
theorem as_invokestatic (hC : Cx p s m args c (mC j) (mL j) (mY j).cls D cA A ad0 M0) (hini : (mY j).name = meth.name) (i : Nat) : AstP p l e R s m args below meth c Q D cA A ad0 M0 t0 c0 u0 pc j d (.invokestatic i) := by
  intro ln ra rb rc L S L1 S1 σ σ1 hdg hok h hf hlo hcap hsl K
  obtain ⟨hln, hw⟩ := hok
  have hln : ln = _ := hln
  subst hln
  delta ast at h
  dsimp only at h
  split at h
  · split at h
    · rename_i hr; cases h
      obtain ⟨r1, r2, rfl⟩ := hr
      exact k_min hC i hw gm_min_s gm_ini gm_min_c hdg (by omega) (by omega) r2 hcap hsl K
    · split at h
      · rename_i hr; cases h
        obtain ⟨r1, r2, rfl⟩ := hr
        exact k_max hC i hw gm_max_s gm_ini gm_max_c hdg (by omega) (by omega) r2 hcap hsl K
      · split at h
        · split at h
          · rename_i hr; cases h
            obtain ⟨r1, r2, rfl, r3, r4, r5, r6, r7, r8, r9⟩ := hr
            exact k_copy hC i hw gm_nat gm_cs gm_sys hdg (by omega) (by omega) r2 r3 r4 r5 r6 r7 r8 r9 K
          · cases h
        · cases h
  · cases h
set_option maxRecDepth 100000 in
theorem as_invokevirtual (hC : Cx p s m args c (mC j) (mL j) (mY j).cls D cA A ad0 M0) (hini : (mY j).name = meth.name) (i : Nat) : AstP p l e R s m args below meth c Q D cA A ad0 M0 t0 c0 u0 pc j d (.invokevirtual i) := by
  intro ln ra rb rc L S L1 S1 σ σ1 hdg hok h hf hlo hcap hsl K
  obtain ⟨hln, hw⟩ := hok
  have hln : ln = _ := hln
  subst hln
  delta ast at h
  dsimp only at h
  split at h
  · split at h
    · rename_i hr; cases h
      obtain ⟨r1, r2, rfl, r3, r4⟩ := hr
      exact k_strlen hC i hw hdg (by omega) (by omega) r2 hcap hsl r3 r4 K
    · cases h
  · split at h
    · rename_i hr; cases h
      obtain ⟨r1, r2, rfl, r3, r4, r5, r6⟩ := hr
      exact k_charAt hC i hw hdg (by omega) (by omega) r2 hcap hsl r3 r4 r5 r6 K
    · cases h
  · cases h
set_option maxRecDepth 100000 in
theorem as_invokespecial (hC : Cx p s m args c (mC j) (mL j) (mY j).cls D cA A ad0 M0) (hini : (mY j).name = meth.name) (i : Nat) : AstP p l e R s m args below meth c Q D cA A ad0 M0 t0 c0 u0 pc j d (.invokespecial i) := by
  intro ln ra rb rc L S L1 S1 σ σ1 hdg hok h hf hlo hcap hsl K
  obtain ⟨hln, hw⟩ := hok
  have hln : ln = _ := hln
  subst hln
  delta ast at h
  dsimp only at h
  split at h
  · split at h
    · rename_i hr; cases h
      obtain ⟨r1, r2, rfl, r3⟩ := hr
      exact k_objInit hC i hw gm_oi gm_oi_c hdg (by omega) (by omega) r2 r3 K
    · cases h
  · cases h
set_option maxRecDepth 100000 in
set_option maxHeartbeats 4000000 in
theorem ast_sound (hC : Cx p s m args c (mC j) (mL j) (mY j).cls D cA A ad0 M0) (hini : (mY j).name = meth.name) (o : aO) (hdg : decode (mC j) pc = .ok (o.1, o.2.1)) (hok : okO j o) (h : ast o d L S σ = some (L1, S1, σ1)) (hf : d ≤ R.frames) (hlo : 36 * d ≤ R.locals) (hcap : σ1.2.2.1 ≤ c0 + R.cells) (hsl : σ1.2.2.2 ≤ u0 + R.slots)
    (K : Gw p l e R s m args below meth c Q D cA A ad0 M0 t0 c0 u0 (mL j) (pc + o.2.1) L1 S1 σ1) : Gw p l e R s m args below meth c Q D cA A ad0 M0 t0 c0 u0 (mL j) pc L S σ := by
  obtain ⟨ins, ln, ra, rb, rc⟩ := o
  cases ins with
  | aload_n k => exact as_aload_n hC hini k ln ra rb rc L S L1 S1 σ σ1 hdg hok h hf hlo hcap hsl K
  | aload k => exact as_aload hC hini k ln ra rb rc L S L1 S1 σ σ1 hdg hok h hf hlo hcap hsl K
  | iload_n k => exact as_iload_n hC hini k ln ra rb rc L S L1 S1 σ σ1 hdg hok h hf hlo hcap hsl K
  | iload k => exact as_iload hC hini k ln ra rb rc L S L1 S1 σ σ1 hdg hok h hf hlo hcap hsl K
  | lload_n k => exact as_lload_n hC hini k ln ra rb rc L S L1 S1 σ σ1 hdg hok h hf hlo hcap hsl K
  | lload k => exact as_lload hC hini k ln ra rb rc L S L1 S1 σ σ1 hdg hok h hf hlo hcap hsl K
  | astore_n k => exact as_astore_n hC hini k ln ra rb rc L S L1 S1 σ σ1 hdg hok h hf hlo hcap hsl K
  | astore k => exact as_astore hC hini k ln ra rb rc L S L1 S1 σ σ1 hdg hok h hf hlo hcap hsl K
  | istore_n k => exact as_istore_n hC hini k ln ra rb rc L S L1 S1 σ σ1 hdg hok h hf hlo hcap hsl K
  | istore k => exact as_istore hC hini k ln ra rb rc L S L1 S1 σ σ1 hdg hok h hf hlo hcap hsl K
  | lstore_n k => exact as_lstore_n hC hini k ln ra rb rc L S L1 S1 σ σ1 hdg hok h hf hlo hcap hsl K
  | lstore k => exact as_lstore hC hini k ln ra rb rc L S L1 S1 σ σ1 hdg hok h hf hlo hcap hsl K
  | iinc i n => exact as_iinc hC hini i n ln ra rb rc L S L1 S1 σ σ1 hdg hok h hf hlo hcap hsl K
  | iconst n => exact as_iconst hC hini n ln ra rb rc L S L1 S1 σ σ1 hdg hok h hf hlo hcap hsl K
  | bipush n => exact as_bipush hC hini n ln ra rb rc L S L1 S1 σ σ1 hdg hok h hf hlo hcap hsl K
  | sipush n => exact as_sipush hC hini n ln ra rb rc L S L1 S1 σ σ1 hdg hok h hf hlo hcap hsl K
  | lconst n => exact as_lconst hC hini n ln ra rb rc L S L1 S1 σ σ1 hdg hok h hf hlo hcap hsl K
  | ldc i => exact as_ldc hC hini i ln ra rb rc L S L1 S1 σ σ1 hdg hok h hf hlo hcap hsl K
  | ldc_w i => exact as_ldc_w hC hini i ln ra rb rc L S L1 S1 σ σ1 hdg hok h hf hlo hcap hsl K
  | ldc2_w i => exact as_ldc2_w hC hini i ln ra rb rc L S L1 S1 σ σ1 hdg hok h hf hlo hcap hsl K
  | getstatic i => exact as_getstatic hC hini i ln ra rb rc L S L1 S1 σ σ1 hdg hok h hf hlo hcap hsl K
  | getfield i => exact as_getfield hC hini i ln ra rb rc L S L1 S1 σ σ1 hdg hok h hf hlo hcap hsl K
  | putfield i => exact as_putfield hC hini i ln ra rb rc L S L1 S1 σ σ1 hdg hok h hf hlo hcap hsl K
  | iaload => exact as_iaload hC hini  ln ra rb rc L S L1 S1 σ σ1 hdg hok h hf hlo hcap hsl K
  | baload => exact as_baload hC hini  ln ra rb rc L S L1 S1 σ σ1 hdg hok h hf hlo hcap hsl K
  | laload => exact as_laload hC hini  ln ra rb rc L S L1 S1 σ σ1 hdg hok h hf hlo hcap hsl K
  | aaload => exact as_aaload hC hini  ln ra rb rc L S L1 S1 σ σ1 hdg hok h hf hlo hcap hsl K
  | iastore => exact as_iastore hC hini  ln ra rb rc L S L1 S1 σ σ1 hdg hok h hf hlo hcap hsl K
  | bastore => exact as_bastore hC hini  ln ra rb rc L S L1 S1 σ σ1 hdg hok h hf hlo hcap hsl K
  | lastore => exact as_lastore hC hini  ln ra rb rc L S L1 S1 σ σ1 hdg hok h hf hlo hcap hsl K
  | aastore => exact as_aastore hC hini  ln ra rb rc L S L1 S1 σ σ1 hdg hok h hf hlo hcap hsl K
  | arraylength => exact as_arraylength hC hini  ln ra rb rc L S L1 S1 σ σ1 hdg hok h hf hlo hcap hsl K
  | iadd => exact as_iadd hC hini  ln ra rb rc L S L1 S1 σ σ1 hdg hok h hf hlo hcap hsl K
  | isub => exact as_isub hC hini  ln ra rb rc L S L1 S1 σ σ1 hdg hok h hf hlo hcap hsl K
  | imul => exact as_imul hC hini  ln ra rb rc L S L1 S1 σ σ1 hdg hok h hf hlo hcap hsl K
  | idiv => exact as_idiv hC hini  ln ra rb rc L S L1 S1 σ σ1 hdg hok h hf hlo hcap hsl K
  | irem => exact as_irem hC hini  ln ra rb rc L S L1 S1 σ σ1 hdg hok h hf hlo hcap hsl K
  | ladd => exact as_ladd hC hini  ln ra rb rc L S L1 S1 σ σ1 hdg hok h hf hlo hcap hsl K
  | lsub => exact as_lsub hC hini  ln ra rb rc L S L1 S1 σ σ1 hdg hok h hf hlo hcap hsl K
  | lmul => exact as_lmul hC hini  ln ra rb rc L S L1 S1 σ σ1 hdg hok h hf hlo hcap hsl K
  | ldiv => exact as_ldiv hC hini  ln ra rb rc L S L1 S1 σ σ1 hdg hok h hf hlo hcap hsl K
  | lrem => exact as_lrem hC hini  ln ra rb rc L S L1 S1 σ σ1 hdg hok h hf hlo hcap hsl K
  | iand => exact as_iand hC hini  ln ra rb rc L S L1 S1 σ σ1 hdg hok h hf hlo hcap hsl K
  | ior => exact as_ior hC hini  ln ra rb rc L S L1 S1 σ σ1 hdg hok h hf hlo hcap hsl K
  | ixor => exact as_ixor hC hini  ln ra rb rc L S L1 S1 σ σ1 hdg hok h hf hlo hcap hsl K
  | ishl => exact as_ishl hC hini  ln ra rb rc L S L1 S1 σ σ1 hdg hok h hf hlo hcap hsl K
  | ishr => exact as_ishr hC hini  ln ra rb rc L S L1 S1 σ σ1 hdg hok h hf hlo hcap hsl K
  | iushr => exact as_iushr hC hini  ln ra rb rc L S L1 S1 σ σ1 hdg hok h hf hlo hcap hsl K
  | lcmp => exact as_lcmp hC hini  ln ra rb rc L S L1 S1 σ σ1 hdg hok h hf hlo hcap hsl K
  | ineg => exact as_ineg hC hini  ln ra rb rc L S L1 S1 σ σ1 hdg hok h hf hlo hcap hsl K
  | l2i => exact as_l2i hC hini  ln ra rb rc L S L1 S1 σ σ1 hdg hok h hf hlo hcap hsl K
  | i2l => exact as_i2l hC hini  ln ra rb rc L S L1 S1 σ σ1 hdg hok h hf hlo hcap hsl K
  | i2b => exact as_i2b hC hini  ln ra rb rc L S L1 S1 σ σ1 hdg hok h hf hlo hcap hsl K
  | dup => exact as_dup hC hini  ln ra rb rc L S L1 S1 σ σ1 hdg hok h hf hlo hcap hsl K
  | pop => exact as_pop hC hini  ln ra rb rc L S L1 S1 σ σ1 hdg hok h hf hlo hcap hsl K
  | dup2 => exact as_dup2 hC hini  ln ra rb rc L S L1 S1 σ σ1 hdg hok h hf hlo hcap hsl K
  | new i => exact as_new hC hini i ln ra rb rc L S L1 S1 σ σ1 hdg hok h hf hlo hcap hsl K
  | newarray t => exact as_newarray hC hini t ln ra rb rc L S L1 S1 σ σ1 hdg hok h hf hlo hcap hsl K
  | anewarray i => exact as_anewarray hC hini i ln ra rb rc L S L1 S1 σ σ1 hdg hok h hf hlo hcap hsl K
  | invokestatic i => exact as_invokestatic hC hini i ln ra rb rc L S L1 S1 σ σ1 hdg hok h hf hlo hcap hsl K
  | invokevirtual i => exact as_invokevirtual hC hini i ln ra rb rc L S L1 S1 σ σ1 hdg hok h hf hlo hcap hsl K
  | invokespecial i => exact as_invokespecial hC hini i ln ra rb rc L S L1 S1 σ σ1 hdg hok h hf hlo hcap hsl K
  | _ => delta ast at h; dsimp only at h; cases h
set_option maxRecDepth 100000 in
set_option maxHeartbeats 4000000 in
theorem ajm_sound (hC : Cx p s m args c (mC j) (mL j) (mY j).cls D cA A ad0 M0) (o : aO) (hdg : decode (mC j) pc = .ok (o.1, o.2.1)) (hok : okO j o) {t : Option Nat} (h : ajm o pc S = some (t, S1)) (hpos : okJ pc o)
    (K : (∀ t1, t = some t1 → Gw p l e R s m args below meth c Q D cA A ad0 M0 t0 c0 u0 (mL j) t1 L S1 σ) ∧ (t = none → Gw p l e R s m args below meth c Q D cA A ad0 M0 t0 c0 u0 (mL j) (pc + o.2.1) L S1 σ)) : Gw p l e R s m args below meth c Q D cA A ad0 M0 t0 c0 u0 (mL j) pc L S σ := by
  obtain ⟨ins, ln, ra, rb, rc⟩ := o
  cases ins with
  | goto off =>
    obtain ⟨hln, hw⟩ := hok
    have hln : ln = _ := hln
    subst hln
    simp only [ajm] at h
    cases h
    exact k_goto hC off hdg (Int.toNat_of_nonneg (hpos _ (Or.inl ⟨off, rfl, rfl⟩))).symm (K.1 _ rfl)
  | if_icmp cd off =>
    obtain ⟨hln, hw⟩ := hok
    have hln : ln = _ := hln
    subst hln
    have hp := (Int.toNat_of_nonneg (hpos _ (Or.inr (Or.inl ⟨cd, off, rfl, rfl⟩)))).symm
    cases cd with
    | eq =>
      simp only [ajm] at h
      split at h
      · refine k_icmp_eq hC off hdg hp (fun hc => ?_) (fun hc => ?_)
        · rw [if_pos hc] at h; cases h; exact K.1 _ rfl
        · rw [if_neg hc] at h; cases h; exact K.2 rfl
      · cases h
    | ne =>
      simp only [ajm] at h
      split at h
      · refine k_icmp_ne hC off hdg hp (fun hc => ?_) (fun hc => ?_)
        · rw [if_pos hc] at h; cases h; exact K.1 _ rfl
        · rw [if_neg hc] at h; cases h; exact K.2 rfl
      · cases h
    | lt =>
      simp only [ajm] at h
      split at h
      · refine k_icmp_lt hC off hdg hp (fun hc => ?_) (fun hc => ?_)
        · rw [if_pos hc] at h; cases h; exact K.1 _ rfl
        · rw [if_neg hc] at h; cases h; exact K.2 rfl
      · cases h
    | ge =>
      simp only [ajm] at h
      split at h
      · refine k_icmp_ge hC off hdg hp (fun hc => ?_) (fun hc => ?_)
        · rw [if_pos hc] at h; cases h; exact K.1 _ rfl
        · rw [if_neg hc] at h; cases h; exact K.2 rfl
      · cases h
    | gt =>
      simp only [ajm] at h
      split at h
      · refine k_icmp_gt hC off hdg hp (fun hc => ?_) (fun hc => ?_)
        · rw [if_pos hc] at h; cases h; exact K.1 _ rfl
        · rw [if_neg hc] at h; cases h; exact K.2 rfl
      · cases h
    | le =>
      simp only [ajm] at h
      split at h
      · refine k_icmp_le hC off hdg hp (fun hc => ?_) (fun hc => ?_)
        · rw [if_pos hc] at h; cases h; exact K.1 _ rfl
        · rw [if_neg hc] at h; cases h; exact K.2 rfl
      · cases h
  | ifCond cd off =>
    obtain ⟨hln, hw⟩ := hok
    have hln : ln = _ := hln
    subst hln
    have hp := (Int.toNat_of_nonneg (hpos _ (Or.inr (Or.inr (Or.inl ⟨cd, off, rfl, rfl⟩))))).symm
    cases cd with
    | eq =>
      simp only [ajm] at h
      split at h
      · refine k_if_eq hC off hdg hp (fun hc => ?_) (fun hc => ?_)
        · rw [if_pos hc] at h; cases h; exact K.1 _ rfl
        · rw [if_neg hc] at h; cases h; exact K.2 rfl
      · cases h
    | ne =>
      simp only [ajm] at h
      split at h
      · refine k_if_ne hC off hdg hp (fun hc => ?_) (fun hc => ?_)
        · rw [if_pos hc] at h; cases h; exact K.1 _ rfl
        · rw [if_neg hc] at h; cases h; exact K.2 rfl
      · cases h
    | lt =>
      simp only [ajm] at h
      split at h
      · refine k_if_lt hC off hdg hp (fun hc => ?_) (fun hc => ?_)
        · rw [if_pos hc] at h; cases h; exact K.1 _ rfl
        · rw [if_neg hc] at h; cases h; exact K.2 rfl
      · cases h
    | ge =>
      simp only [ajm] at h
      split at h
      · refine k_if_ge hC off hdg hp (fun hc => ?_) (fun hc => ?_)
        · rw [if_pos hc] at h; cases h; exact K.1 _ rfl
        · rw [if_neg hc] at h; cases h; exact K.2 rfl
      · cases h
    | gt =>
      simp only [ajm] at h
      split at h
      · refine k_if_gt hC off hdg hp (fun hc => ?_) (fun hc => ?_)
        · rw [if_pos hc] at h; cases h; exact K.1 _ rfl
        · rw [if_neg hc] at h; cases h; exact K.2 rfl
      · cases h
    | le =>
      simp only [ajm] at h
      split at h
      · refine k_if_le hC off hdg hp (fun hc => ?_) (fun hc => ?_)
        · rw [if_pos hc] at h; cases h; exact K.1 _ rfl
        · rw [if_neg hc] at h; cases h; exact K.2 rfl
      · cases h
  | ifnull off =>
    obtain ⟨hln, hw⟩ := hok
    have hln : ln = _ := hln
    subst hln
    have hp := (Int.toNat_of_nonneg (hpos _ (Or.inr (Or.inr (Or.inr (Or.inl ⟨off, rfl, rfl⟩)))))).symm
    simp only [ajm] at h
    split at h
    · refine k_ifnull hC off hdg hp (fun hc => ?_) (fun hc => ?_)
      · rw [if_pos hc] at h; cases h; exact K.1 _ rfl
      · rw [if_neg hc] at h; cases h; exact K.2 rfl
    · cases h
  | ifnonnull off =>
    obtain ⟨hln, hw⟩ := hok
    have hln : ln = _ := hln
    subst hln
    have hp := (Int.toNat_of_nonneg (hpos _ (Or.inr (Or.inr (Or.inr (Or.inr (Or.inl ⟨off, rfl, rfl⟩))))))).symm
    simp only [ajm] at h
    split at h
    · refine k_ifnonnull hC off hdg hp (fun hc => ?_) (fun hc => ?_)
      · rw [if_pos hc] at h; cases h; exact K.2 rfl
      · rw [if_neg hc] at h; cases h; exact K.1 _ rfl
    · cases h
  | tableswitch dflt lo hi offs =>
    have hp := fun x hx => (Int.toNat_of_nonneg (hpos x (Or.inr (Or.inr (Or.inr (Or.inr (Or.inr (Or.inl ⟨dflt, lo, hi, offs, rfl, hx⟩)))))))).symm
    simp only [ajm] at h
    split at h
    · split at h
      · rename_i hc; cases h
        exact k_table hC dflt lo hi offs ln hdg (Or.inl ⟨hc, hp _ (Or.inl rfl)⟩) (K.1 _ rfl)
      · rename_i hc
        split at h
        · rename_i off ho; cases h
          exact k_table hC dflt lo hi offs ln hdg (Or.inr ⟨off, hc, ho, hp _ (Or.inr ⟨off, Array.mem_toList_iff.mpr (Array.mem_of_getElem? ho), rfl⟩)⟩) (K.1 _ rfl)
        · cases h
    · cases h
  | lookupswitch dflt ps =>
    obtain ⟨hln, hw⟩ := hok
    simp only [ajm] at h
    split at h
    · cases h
      exact k_look hC dflt ps ln hdg hln (Int.toNat_of_nonneg (hpos _ (Or.inr (Or.inr (Or.inr (Or.inr (Or.inr (Or.inr ⟨dflt, ps, _, rfl, rfl⟩)))))))).symm (K.1 _ rfl)
    · cases h
  | _ => simp only [ajm] at h; cases h
end Ast

/-! the sizes of THE PILE: what both work out is the same -/
def edH (P : pT) (X : Nat → Nat → Prop) (k : Nat) : Prop := ∀ j, cvA P j k = true → qa P j < pn P → X (qa P j) 1
def edL (P : pT) (X : Nat → Nat → Prop) (k s : Nat) : Prop := fiA (opA P k) s = true → (goA P k = true → k + 1 < pn P → X (k + 1) (s - tkA (opA P k) + gvA (opA P k))) ∧ (juA P k = true → nuN P k < pn P → X (nuN P k) (s - tkA (opA P k) + gvA (opA P k)))
def clR (P : pT) (X : Nat → Nat → Prop) : Prop := (0 < pn P → X 0 0) ∧ ∀ k s, k < pn P → s ≤ 6 → X k s → edH P X k ∧ edL P X k s
def Rc (P : pT) (i s : Nat) : Prop := ∀ X, clR P X → X i s
theorem Rc_cl (P : pT) : clR P (Rc P) :=
  ⟨fun h X hX => hX.1 h, fun k s hk hs hr => ⟨fun j h1 h2 X hX => (hX.2 k s hk hs (hr X hX)).1 j h1 h2, fun hf => ⟨fun h1 h2 X hX => ((hX.2 k s hk hs (hr X hX)).2 hf).1 h1 h2, fun h1 h2 X hX => ((hX.2 k s hk hs (hr X hX)).2 hf).2 h1 h2⟩⟩⟩
theorem fi_6 {o s : Nat} (h : fiA o s = true) : tkA o ≤ s ∧ s - tkA o + gvA o ≤ 6 := by unfold fiA at h; simpa using h
theorem Rc_lt {P : pT} {i s : Nat} (h : Rc P i s) : i < pn P ∧ s ≤ 6 := by
  refine h (fun i s => i < pn P ∧ s ≤ 6) ⟨fun q => ⟨q, by decide⟩, fun k s hk hs _ => ⟨fun j _ h2 => ⟨h2, by decide⟩, fun hf => ?_⟩⟩
  have := (fi_6 hf).2
  exact ⟨fun _ h2 => ⟨h2, this⟩, fun _ h2 => ⟨h2, this⟩⟩
theorem edH.mo {P : pT} {X Y : Nat → Nat → Prop} {k : Nat} (h : edH P X k) (m : ∀ i s, X i s → Y i s) : edH P Y k := fun j h1 h2 => m _ _ (h j h1 h2)
theorem edL.mo {P : pT} {X Y : Nat → Nat → Prop} {k s : Nat} (h : edL P X k s) (m : ∀ i s, X i s → Y i s) : edL P Y k s := fun hf => ⟨fun h1 h2 => m _ _ ((h hf).1 h1 h2), fun h1 h2 => m _ _ ((h hf).2 h1 h2)⟩
def tb (H : Nat → Nat) (n i s : Nat) : Prop := i < n ∧ (H i).testBit s = true
theorem tb_or (m s t : Nat) : (m ||| 2 ^ s).testBit t = (m.testBit t || decide (s = t)) := by rw [Nat.testBit_or, Nat.testBit_two_pow]
theorem tb_6 {m t : Nat} (hm : m < 128) (h : m.testBit t = true) : t ≤ 6 := by
  rcases Nat.lt_or_ge 6 t with q | q
  · have : m < 2 ^ t := Nat.lt_of_lt_of_le hm (show 2 ^ 7 ≤ 2 ^ t from Nat.pow_le_pow_right (by decide) q)
    rw [Nat.testBit_lt_two_pow this] at h; cases h
  · exact q
theorem up_tb {H : Nat → Nat} {n j s i t : Nat} : tb (va_up H j (H j ||| 2 ^ s)) n i t ↔ tb H n i t ∨ (i < n ∧ i = j ∧ t = s) := by
  unfold tb va_up
  by_cases e : i = j
  · subst e
    rw [if_pos rfl, tb_or]
    simp only [Bool.or_eq_true, decide_eq_true_eq]
    constructor
    · rintro ⟨h1, h2 | h2⟩
      · exact Or.inl ⟨h1, h2⟩
      · exact Or.inr ⟨h1, trivial, h2.symm⟩
    · rintro (⟨h1, h2⟩ | ⟨h1, -, h2⟩)
      · exact ⟨h1, Or.inl h2⟩
      · exact ⟨h1, Or.inr h2.symm⟩
  · rw [if_neg e]
    exact ⟨fun h => Or.inl h, fun h => h.elim id (fun q => absurd q.2.1 e)⟩
/-- how many bits there are -/
def cnB (H : Nat → Nat) (n : Nat) : Nat := (List.range 210).countP (fun x => decide (x / 7 < n) && (H (x / 7)).testBit (x % 7))
theorem cnB_le (H : Nat → Nat) (n : Nat) : cnB H n ≤ 210 := by
  have := List.countP_le_length (p := fun x => decide (x / 7 < n) && (H (x / 7)).testBit (x % 7)) (l := List.range 210)
  simpa [cnB] using this
theorem cP_le {p q : Nat → Bool} : ∀ (l : List Nat), (∀ x, p x = true → q x = true) → l.countP p ≤ l.countP q
  | [], _ => Nat.le_refl _
  | x :: l, h => by
    have ih := cP_le l h
    have hx := h x
    rw [List.countP_cons, List.countP_cons]
    cases h1 : p x <;> cases h2 : q x <;> simp_all <;> omega
theorem cP_lt {p q : Nat → Bool} : ∀ (l : List Nat), (∀ x, p x = true → q x = true) → (∃ x, x ∈ l ∧ q x = true ∧ p x = false) → l.countP p < l.countP q
  | [], _, h => by obtain ⟨x, h, _⟩ := h; cases h
  | x :: l, h, hx => by
    obtain ⟨y, h1, h2, h3⟩ := hx
    rw [List.countP_cons, List.countP_cons]
    rcases List.mem_cons.mp h1 with e | e
    · subst e
      have := cP_le (p := p) (q := q) l h
      rw [h2, h3]
      simp
      omega
    · have ih := cP_lt l h ⟨y, e, h2, h3⟩
      have hx := h x
      cases h4 : p x <;> cases h5 : q x <;> simp_all <;> omega
theorem cnB_lt {H G : Nat → Nat} {n : Nat} (hn : n ≤ 30) (h : ∀ i s, tb H n i s → tb G n i s) {i s : Nat} (h6 : s ≤ 6) (h1 : tb G n i s) (h2 : ¬ tb H n i s) : cnB H n < cnB G n := by
  refine cP_lt _ (fun x hx => ?_) ⟨7 * i + s, ?_, ?_, ?_⟩
  · simp only [Bool.and_eq_true, decide_eq_true_eq] at hx ⊢
    exact h _ _ hx
  · have := h1.1; simp; omega
  · have e1 : (7 * i + s) / 7 = i := by omega
    have e2 : (7 * i + s) % 7 = s := by omega
    rw [e1, e2]
    simp [h1.1, h1.2]
  · have e1 : (7 * i + s) / 7 = i := by omega
    have e2 : (7 * i + s) % 7 = s := by omega
    rw [e1, e2]
    have := h1.1
    unfold tb at h2
    simp [this] at h2 ⊢
    exact h2
/-! the class -/
def zle (n : Nat) (Z Z' : zS) : Prop := (∀ i s, tb Z.1 n i s → tb Z'.1 n i s) ∧ (∀ k, Z.2.1 k = true → Z'.2.1 k = true) ∧ (∀ k s, tb Z'.1 n k s → tb Z.1 n k s ∨ Z'.2.1 k = true) ∧ (∀ k, Z'.2.1 k = true → Z.2.1 k = true ∨ Z'.2.2 = true) ∧ (Z.2.2 = true → Z'.2.2 = true) ∧ (Z'.2.2 = true → Z.2.2 = true ∨ ∃ i s, tb Z'.1 n i s ∧ ¬ tb Z.1 n i s)
theorem zle.rf {n : Nat} {Z : zS} : zle n Z Z := ⟨fun _ _ h => h, fun _ h => h, fun _ _ h => Or.inl h, fun _ h => Or.inl h, fun h => h, fun h => Or.inl h⟩
theorem zle.tr {n : Nat} {Z Y X : zS} (a : zle n Z Y) (b : zle n Y X) : zle n Z X := by
  obtain ⟨a1, a2, a3, a4, a5, a6⟩ := a
  obtain ⟨b1, b2, b3, b4, b5, b6⟩ := b
  refine ⟨fun i s h => b1 i s (a1 i s h), fun k h => b2 k (a2 k h), fun k s h => ?_, fun k h => ?_, fun h => b5 (a5 h), fun h => ?_⟩
  · rcases b3 k s h with q | q
    · exact (a3 k s q).imp id (b2 k)
    · exact Or.inr q
  · rcases b4 k h with q | q
    · exact (a4 k q).imp id b5
    · exact Or.inr q
  · rcases b6 h with q | ⟨i, s, q1, q2⟩
    · rcases a6 q with r | ⟨i, s, r1, r2⟩
      · exact Or.inl r
      · exact Or.inr ⟨i, s, b1 _ _ r1, r2⟩
    · exact Or.inr ⟨i, s, q1, fun r => q2 (a1 _ _ r)⟩
def zI (P : pT) (Z : zS) : Prop := (∀ i, Z.1 i < 128) ∧ (∀ i t, tb Z.1 (pn P) i t → Rc P i t) ∧ (∀ k, Z.2.1 k = true → ∃ s, tb Z.1 (pn P) k s)
theorem co_ok {P : pT} {Z : zS} (h : zI P Z) {j s : Nat} (hs : s ≤ 6) (hR : j < pn P → Rc P j s) : zle (pn P) Z (coA (pn P) Z j s) ∧ zI P (coA (pn P) Z j s) ∧ (j < pn P → tb (coA (pn P) Z j s).1 (pn P) j s) := by
  unfold coA
  split
  · next q =>
    have hb : tb (va_up Z.1 j (Z.1 j ||| 2 ^ s)) (pn P) j s := up_tb.mpr (Or.inr ⟨q.1, rfl, rfl⟩)
    have hn : ¬ tb Z.1 (pn P) j s := fun r => by rw [r.2] at q; cases q.2
    refine ⟨⟨fun i t r => up_tb.mpr (Or.inl r), fun k r => ?_, fun k t r => ?_, fun k r => Or.inr rfl, fun _ => rfl, fun _ => Or.inr ⟨j, s, hb, hn⟩⟩, ⟨fun i => ?_, fun i t r => ?_, fun k r => ?_⟩, fun _ => hb⟩
    · show va_up Z.2.1 j true k = true
      unfold va_up; split
      · rfl
      · exact r
    · rcases up_tb.mp r with r | ⟨-, r, -⟩
      · exact Or.inl r
      · refine Or.inr ?_
        show va_up Z.2.1 j true k = true
        unfold va_up; rw [if_pos r]
    · show va_up Z.1 j (Z.1 j ||| 2 ^ s) i < 128
      unfold va_up; split
      · exact (bt_lt (h.1 j) hs).2.1
      · exact h.1 i
    · rcases up_tb.mp r with r | ⟨-, r1, r2⟩
      · exact h.2.1 i t r
      · rw [r1, r2]; exact hR q.1
    · have r : va_up Z.2.1 j true k = true := r
      unfold va_up at r
      by_cases e : k = j
      · exact ⟨s, by rw [e]; exact hb⟩
      · rw [if_neg e] at r
        obtain ⟨t, ht⟩ := h.2.2 k r
        exact ⟨t, up_tb.mpr (Or.inl ht)⟩
  · next q =>
    refine ⟨zle.rf, h, fun r => ⟨r, ?_⟩⟩
    cases e : (Z.1 j).testBit s
    · exact absurd ⟨r, e⟩ q
    · rfl
theorem ls_ok {P : pT} {Z : zS} (h : zI P Z) {k s : Nat} (hk : k < pn P) (hs : s ≤ 6) : zle (pn P) Z (lsA P (nuN P k) k Z s) ∧ zI P (lsA P (nuN P k) k Z s) ∧ (tb Z.1 (pn P) k s → edL P (tb (lsA P (nuN P k) k Z s).1 (pn P)) k s) := by
  unfold lsA
  rw [show snA (pn P) Z k = Z.1 k from if_pos hk]
  split
  · next q =>
    have hr := h.2.1 k s ⟨hk, q.1⟩
    have he := ((Rc_cl P).2 k s hk hs hr).2 q.2
    have ht := (fi_6 q.2).2
    unfold gnA
    have h1 : zle (pn P) Z (if goA P k = true then coA (pn P) Z (k + 1) (s - tkA (opA P k) + gvA (opA P k)) else Z) ∧ zI P (if goA P k = true then coA (pn P) Z (k + 1) (s - tkA (opA P k) + gvA (opA P k)) else Z) ∧ (goA P k = true → k + 1 < pn P → tb (if goA P k = true then coA (pn P) Z (k + 1) (s - tkA (opA P k) + gvA (opA P k)) else Z).1 (pn P) (k + 1) (s - tkA (opA P k) + gvA (opA P k))) := by
      split
      · next g =>
        have := co_ok h ht (fun r => he.1 g r)
        exact ⟨this.1, this.2.1, fun _ => this.2.2⟩
      · next g => exact ⟨zle.rf, h, fun r => absurd r g⟩
    generalize (if goA P k = true then coA (pn P) Z (k + 1) (s - tkA (opA P k) + gvA (opA P k)) else Z) = Z1 at h1 ⊢
    split
    · next g =>
      have := co_ok h1.2.1 ht (fun r => he.2 g r)
      exact ⟨h1.1.tr this.1, this.2.1, fun _ _ => ⟨fun a b => this.1.1 _ _ (h1.2.2 a b), fun _ b => this.2.2 b⟩⟩
    · next g => exact ⟨h1.1, h1.2.1, fun _ _ => ⟨h1.2.2, fun r => absurd r g⟩⟩
  · next q => exact ⟨zle.rf, h, fun r hf => absurd ⟨r.2, hf⟩ q⟩
theorem ls_fold {P : pT} {k : Nat} (hk : k < pn P) : ∀ (m s : Nat) (Z : zS), s + m ≤ 7 → zI P Z → zle (pn P) Z (foR (lsA P (nuN P k) k) m s Z) ∧ zI P (foR (lsA P (nuN P k) k) m s Z) ∧ ∀ t, s ≤ t → t < s + m → tb Z.1 (pn P) k t → edL P (tb (foR (lsA P (nuN P k) k) m s Z).1 (pn P)) k t := by
  intro m
  induction m with
  | zero => intro s Z _ h; exact ⟨zle.rf, h, fun t h1 h2 => by omega⟩
  | succ m ih =>
    intro s Z hm h
    have h1 := ls_ok h hk (s := s) (by omega)
    have h2 := ih (s + 1) _ (by omega) h1.2.1
    refine ⟨h1.1.tr h2.1, h2.2.1, fun t ht1 ht2 hb => ?_⟩
    by_cases e : t = s
    · subst e; exact (h1.2.2 hb).mo h2.1.1
    · exact h2.2.2 t (by omega) (by omega) (h1.1.1 _ _ hb)
theorem lh_fold {P : pT} {k : Nat} (hR : ∀ j, cvA P j k = true → qa P j < pn P → Rc P (qa P j) 1) : ∀ (m j : Nat) (Z : zS), zI P Z → zle (pn P) Z (foR (lhA P k) m j Z) ∧ zI P (foR (lhA P k) m j Z) ∧ ∀ t, j ≤ t → t < j + m → cvA P t k = true → qa P t < pn P → tb (foR (lhA P k) m j Z).1 (pn P) (qa P t) 1 := by
  intro m
  induction m with
  | zero => intro s Z h; exact ⟨zle.rf, h, fun t h1 h2 => by omega⟩
  | succ m ih =>
    intro j Z h
    have h1 : zle (pn P) Z (lhA P k Z j) ∧ zI P (lhA P k Z j) ∧ (cvA P j k = true → qa P j < pn P → tb (lhA P k Z j).1 (pn P) (qa P j) 1) := by
      unfold lhA
      split
      · next q =>
        have := co_ok h (j := qa P j) (s := 1) (by decide) (hR j q)
        exact ⟨this.1, this.2.1, fun _ => this.2.2⟩
      · next q => exact ⟨zle.rf, h, fun r => absurd r q⟩
    have h2 := ih (j + 1) _ h1.2.1
    refine ⟨h1.1.tr h2.1, h2.2.1, fun t ht1 ht2 a b => ?_⟩
    by_cases e : t = j
    · subst e; exact h2.1.1 _ _ (h1.2.2 a b)
    · exact h2.2.2 t (by omega) (by omega) a b
theorem cv_lt {P : pT} {j k : Nat} (h : cvA P j k = true) : j < qn P := by unfold cvA at h; simp at h; exact h.1.1
theorem lv_ok {P : pT} {Z : zS} (h : zI P Z) {k : Nat} (hk : ∃ s, tb Z.1 (pn P) k s) : zle (pn P) Z (lvA P (nuN P k) Z k) ∧ zI P (lvA P (nuN P k) Z k) ∧ ∀ t, tb Z.1 (pn P) k t → edH P (tb (lvA P (nuN P k) Z k).1 (pn P)) k ∧ edL P (tb (lvA P (nuN P k) Z k).1 (pn P)) k t := by
  obtain ⟨s, hs⟩ := hk
  have h1 := ls_fold hs.1 7 0 Z (by decide) h
  have hr := h.2.1 k s hs
  have h2 := lh_fold (P := P) (k := k) (((Rc_cl P).2 k s hs.1 (Rc_lt hr).2 hr).1) (qn P) 0 _ h1.2.1
  refine ⟨h1.1.tr h2.1, h2.2.1, fun t ht => ⟨fun j a b => h2.2.2 j (Nat.zero_le _) (by have := cv_lt a; omega) a b, ?_⟩⟩
  exact (h1.2.2 t (Nat.zero_le _) (by have := (Rc_lt (h.2.1 k t ht)).2; omega) ht).mo h2.1.1
def zJ (P : pT) (Z : zS) : Prop := zI P Z ∧ (∀ k, Z.2.1 k = false → ∀ t, tb Z.1 (pn P) k t → edH P (tb Z.1 (pn P)) k ∧ edL P (tb Z.1 (pn P)) k t) ∧ (0 < pn P → tb Z.1 (pn P) 0 0)
theorem rd_ok {P : pT} {Z : zS} (h : zJ P Z) (k : Nat) : zJ P (rdA P Z k) ∧ (∀ i s, tb Z.1 (pn P) i s → tb (rdA P Z k).1 (pn P) i s) ∧ (Z.2.2 = true → (rdA P Z k).2.2 = true) ∧ ((rdA P Z k).2.2 = true → Z.2.2 = true ∨ ∃ i s, tb (rdA P Z k).1 (pn P) i s ∧ ¬ tb Z.1 (pn P) i s) ∧ (∀ j, (rdA P Z k).2.1 j = true → (Z.2.1 j = true ∧ j ≠ k) ∨ (rdA P Z k).2.2 = true) := by
  unfold rdA
  split
  · next q =>
    have hI1 : zI P (Z.1, va_up Z.2.1 k false, Z.2.2) := ⟨h.1.1, h.1.2.1, fun j r => by
      have r : va_up Z.2.1 k false j = true := r
      unfold va_up at r
      by_cases e : j = k
      · rw [if_pos e] at r; cases r
      · rw [if_neg e] at r; exact h.1.2.2 j r⟩
    have hl := lv_ok hI1 (k := k) (h.1.2.2 k q)
    obtain ⟨⟨a1, a2, a3, a4, a5, a6⟩, b, c⟩ := hl
    generalize lvA P (nuN P k) (Z.1, va_up Z.2.1 k false, Z.2.2) k = Z1 at *
    refine ⟨⟨b, fun j hj t ht => ?_, fun r => a1 _ _ (h.2.2 r)⟩, a1, a5, a6, fun j hj => ?_⟩
    · have ht0 : tb Z.1 (pn P) j t := by
        rcases a3 j t ht with r | r
        · exact r
        · rw [hj] at r; cases r
      by_cases e : j = k
      · subst e; exact c t ht0
      · have hw : Z.2.1 j = false := by
          cases hw : Z.2.1 j
          · rfl
          · have : va_up Z.2.1 k false j = true := by unfold va_up; rw [if_neg e]; exact hw
            rw [a2 j this] at hj; cases hj
        have := h.2.1 j hw t ht0
        exact ⟨this.1.mo a1, this.2.mo a1⟩
    · rcases a4 j hj with r | r
      · have r : va_up Z.2.1 k false j = true := r
        unfold va_up at r
        by_cases e : j = k
        · rw [if_pos e] at r; cases r
        · rw [if_neg e] at r; exact Or.inl ⟨r, e⟩
      · exact Or.inr r
  · next q =>
    refine ⟨h, fun _ _ r => r, fun r => r, fun r => Or.inl r, fun j hj => Or.inl ⟨hj, fun e => ?_⟩⟩
    subst e; exact q hj
theorem rd_fold {P : pT} : ∀ (m i : Nat) (Z : zS), zJ P Z → zJ P (foR (rdA P) m i Z) ∧ (∀ a s, tb Z.1 (pn P) a s → tb (foR (rdA P) m i Z).1 (pn P) a s) ∧ (Z.2.2 = true → (foR (rdA P) m i Z).2.2 = true) ∧ ((foR (rdA P) m i Z).2.2 = true → Z.2.2 = true ∨ ∃ a s, tb (foR (rdA P) m i Z).1 (pn P) a s ∧ ¬ tb Z.1 (pn P) a s) ∧ (∀ j, (foR (rdA P) m i Z).2.1 j = true → (Z.2.1 j = true ∧ (j < i ∨ i + m ≤ j)) ∨ (foR (rdA P) m i Z).2.2 = true) := by
  intro m
  induction m with
  | zero => intro i Z h; exact ⟨h, fun _ _ r => r, fun r => r, fun r => Or.inl r, fun j hj => Or.inl ⟨hj, by omega⟩⟩
  | succ m ih =>
    intro i Z h
    obtain ⟨a1, a2, a3, a4, a5⟩ := rd_ok h i
    obtain ⟨b1, b2, b3, b4, b5⟩ := ih (i + 1) _ a1
    refine ⟨b1, fun a s r => b2 _ _ (a2 _ _ r), fun r => b3 (a3 r), fun r => ?_, fun j hj => ?_⟩
    · rcases b4 r with q | ⟨a, s, q1, q2⟩
      · rcases a4 q with q | ⟨a, s, q1, q2⟩
        · exact Or.inl q
        · exact Or.inr ⟨a, s, b2 _ _ q1, q2⟩
      · exact Or.inr ⟨a, s, q1, fun r => q2 (a2 _ _ r)⟩
    · rcases b5 j hj with ⟨q1, q2⟩ | q
      · rcases a5 j q1 with ⟨r1, r2⟩ | r
        · exact Or.inl ⟨r1, by omega⟩
        · exact Or.inr (b3 r)
      · exact Or.inr q
theorem fw_0 {P : pT} {Z : zS} (h : Z.2.2 = false) : ∀ N, fwA P N Z = Z
  | 0 => rfl
  | N + 1 => by show (if _ then _ else _) = _; rw [if_neg (by rw [h]; decide)]
theorem fw_ok {P : pT} (hn : pn P ≤ 30) : ∀ (N : Nat) (Z : zS), zJ P Z → (Z.2.2 = false → ∀ j, Z.2.1 j = false) → 210 < N + cnB Z.1 (pn P) → zJ P (fwA P N Z) ∧ ∀ j, (fwA P N Z).2.1 j = false := by
  intro N
  induction N with
  | zero => intro Z _ _ h; have := cnB_le Z.1 (pn P); omega
  | succ N ih =>
    intro Z h hw hc
    by_cases hz : Z.2.2 = true
    · have e : fwA P (N + 1) Z = fwA P N (rnA P Z) := by show (if _ then _ else _) = _; rw [if_pos hz]
      rw [e]
      obtain ⟨b1, b2, b3, b4, b5⟩ := rd_fold (P := P) 30 0 (Z.1, Z.2.1, false) h
      have e2 : foR (rdA P) 30 0 (Z.1, Z.2.1, false) = rnA P Z := rfl
      rw [e2] at b1 b2 b3 b4 b5
      have hw2 : (rnA P Z).2.2 = false → ∀ j, (rnA P Z).2.1 j = false := fun q j => by
        cases hj : (rnA P Z).2.1 j
        · rfl
        · rcases b5 j hj with ⟨r1, r2⟩ | r
          · obtain ⟨s, hs⟩ := b1.1.2.2 j hj
            have := hs.1
            omega
          · rw [q] at r; cases r
      by_cases hz2 : (rnA P Z).2.2 = true
      · refine ih _ b1 hw2 ?_
        rcases b4 hz2 with r | ⟨a, s, r1, r2⟩
        · cases r
        · have := cnB_lt hn b2 (tb_6 (b1.1.1 a) r1.2) r1 r2
          have e3 : cnB (Z.1, Z.2.1, false).1 (pn P) = cnB Z.1 (pn P) := rfl
          omega
      · have hz2 : (rnA P Z).2.2 = false := by simpa using hz2
        rw [fw_0 hz2]
        exact ⟨b1, hw2 hz2⟩
    · have hz : Z.2.2 = false := by simpa using hz
      rw [fw_0 hz]
      exact ⟨h, hw hz⟩
/-- what the class has of sizes -/
def cZA (P : pT) (g : Bool) : zS := fwA P 100000 (coA (pn P) (z0A g) 0 0)
theorem cz_ok {P : pT} (hn : pn P ≤ 30) (g : Bool) (h0 : 0 < pn P) : (∀ i, (cZA P g).1 i < 128) ∧ ∀ i s, tb (cZA P g).1 (pn P) i s ↔ Rc P i s := by
  have hz0 : ∀ i s, ¬ tb (z0A g).1 (pn P) i s := fun i s r => by have := r.2; simp [z0A] at this
  have hI0 : zI P (z0A g) := ⟨fun i => by show 0 < 128; decide, fun i s r => absurd r (hz0 i s), fun k r => by cases r⟩
  have hc := co_ok hI0 (j := 0) (s := 0) (by decide) (fun r => (Rc_cl P).1 r)
  have hJ : zJ P (coA (pn P) (z0A g) 0 0) := by
    refine ⟨hc.2.1, fun k hk t ht => ?_, fun _ => hc.2.2 h0⟩
    rcases hc.1.2.2.1 k t ht with r | r
    · exact absurd r (hz0 _ _)
    · rw [hk] at r; cases r
  have hw : (coA (pn P) (z0A g) 0 0).2.2 = false → ∀ j, (coA (pn P) (z0A g) 0 0).2.1 j = false := by
    intro q
    unfold coA at q
    rw [if_pos ⟨h0, by simp [z0A]⟩] at q
    cases q
  have hf := fw_ok hn 100000 _ hJ hw (by have := cnB_le (coA (pn P) (z0A g) 0 0).1 (pn P); omega)
  have e : fwA P 100000 (coA (pn P) (z0A g) 0 0) = cZA P g := rfl
  rw [e] at hf
  refine ⟨hf.1.1.1, fun i s => ⟨hf.1.1.2.1 i s, fun r => ?_⟩⟩
  exact r _ ⟨hf.1.2.2, fun k s _ _ q => hf.1.2.1 k (hf.2 k) s q⟩

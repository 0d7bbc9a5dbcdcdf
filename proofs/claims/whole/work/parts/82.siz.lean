/-! the reference's sizes -/
def outP (P : pT) (k s : Nat) : Prop := (∃ j, cvA P j k = true ∧ ¬ qa P j < pn P) ∨ (fiA (opA P k) s = true ∧ loA P k = true)
def hle (n : Nat) (Z Z' : hS) : Prop := (∀ i s, tb Z.1 n i s → tb Z'.1 n i s) ∧ (∀ k b, (Z.2 k).testBit b = true → (Z'.2 k).testBit b = true)
theorem hle.rf {n : Nat} {Z : hS} : hle n Z Z := ⟨fun _ _ h => h, fun _ _ h => h⟩
theorem hle.tr {n : Nat} {Z Y X : hS} (a : hle n Z Y) (b : hle n Y X) : hle n Z X := ⟨fun i s h => b.1 i s (a.1 i s h), fun k c h => b.2 k c (a.2 k c h)⟩
def hI (P : pT) (Z : hS) : Prop := (∀ i, Z.1 i < 128) ∧ (∀ i t, tb Z.1 (pn P) i t → Rc P i t) ∧ (∀ k, (Z.2 k).testBit 1 = true → ∃ s, Rc P k s ∧ outP P k s) ∧ (∀ k, (Z.2 k).testBit 3 = true → ∃ s, Rc P k s ∧ fiA (opA P k) s = false) ∧ (∀ i, ¬ i < pn P → Z.1 i = 0) ∧ ∀ k, Z.2 k < 16
def flZ (P : pT) (Z : hS) (k s : Nat) : Prop := edH P (tb Z.1 (pn P)) k ∧ edL P (tb Z.1 (pn P)) k s ∧ (outP P k s → (Z.2 k).testBit 1 = true) ∧ (fiA (opA P k) s = false → (Z.2 k).testBit 3 = true)
theorem flZ.mo {P : pT} {Z Z' : hS} {k s : Nat} (h : flZ P Z k s) (m : hle (pn P) Z Z') : flZ P Z' k s := ⟨h.1.mo m.1, h.2.1.mo m.1, fun q => m.2 _ _ (h.2.2.1 q), fun q => m.2 _ _ (h.2.2.2 q)⟩
theorem up_fb {F : Nat → Nat} {i : Nat} {b c k : Nat} : (va_up F i (F i ||| 2 ^ b) k).testBit c = true ↔ (F k).testBit c = true ∨ (k = i ∧ c = b) := by
  unfold va_up
  by_cases e : k = i
  · subst e
    rw [if_pos rfl, tb_or]
    simp only [Bool.or_eq_true, decide_eq_true_eq]
    constructor
    · rintro (h | h)
      · exact Or.inl h
      · exact Or.inr ⟨trivial, h.symm⟩
    · rintro (h | ⟨-, h⟩)
      · exact Or.inl h
      · exact Or.inr h.symm
  · rw [if_neg e]
    exact ⟨fun h => Or.inl h, fun h => h.elim id (fun q => absurd q.1 e)⟩
/-- a way on from k: into an INSTRUCTION, or out -/
theorem hc_ok {P : pT} {Z : hS} (h : hI P Z) {k j s : Nat} (hs : s ≤ 6) (hR : j < pn P → Rc P j s) (hO : ¬ j < pn P → ∃ t, Rc P k t ∧ outP P k t) : hle (pn P) Z (hcA (pn P) Z k j s) ∧ hI P (hcA (pn P) Z k j s) ∧ (j < pn P → tb (hcA (pn P) Z k j s).1 (pn P) j s) ∧ (¬ j < pn P → ((hcA (pn P) Z k j s).2 k).testBit 1 = true) := by
  obtain ⟨h1, h2, h3, h4, h5, h6⟩ := h
  unfold hcA
  split
  · next q =>
    refine ⟨⟨fun i t r => up_tb.mpr (Or.inl r), fun _ _ r => r⟩, ⟨fun i => ?_, fun i t r => ?_, h3, h4, fun i hi => ?_, h6⟩, fun _ => up_tb.mpr (Or.inr ⟨q, rfl, rfl⟩), fun r => absurd q r⟩
    · show va_up Z.1 j (Z.1 j ||| 2 ^ s) i < 128
      unfold va_up; split
      · exact (bt_lt (h1 j) hs).2.1
      · exact h1 i
    · rcases up_tb.mp r with r | ⟨-, r1, r2⟩
      · exact h2 i t r
      · rw [r1, r2]; exact hR q
    · show va_up Z.1 j (Z.1 j ||| 2 ^ s) i = 0
      unfold va_up; rw [if_neg (by omega)]; exact h5 i hi
  · next q =>
    have e2 : (2 : Nat) = 2 ^ 1 := rfl
    refine ⟨⟨fun _ _ r => r, fun i b r => ?_⟩, ⟨h1, h2, fun i r => ?_, fun i r => ?_, h5, fun i => ?_⟩, fun r => absurd r q, fun _ => ?_⟩
    · show (va_up Z.2 k (Z.2 k ||| 2 ^ 1) i).testBit b = true
      exact up_fb.mpr (Or.inl r)
    · have r : (va_up Z.2 k (Z.2 k ||| 2 ^ 1) i).testBit 1 = true := r
      rcases up_fb.mp r with r | ⟨r, -⟩
      · exact h3 i r
      · rw [r]; exact hO q
    · have r : (va_up Z.2 k (Z.2 k ||| 2 ^ 1) i).testBit 3 = true := r
      rcases up_fb.mp r with r | ⟨-, r⟩
      · exact h4 i r
      · cases r
    · show va_up Z.2 k (Z.2 k ||| 2) i < 16
      unfold va_up; split
      · exact (or_16 _ (h6 k)).1
      · exact h6 i
    · show (va_up Z.2 k (Z.2 k ||| 2 ^ 1) k).testBit 1 = true
      exact up_fb.mpr (Or.inr ⟨rfl, rfl⟩)
theorem hh_fold {P : pT} {k s : Nat} (hr : Rc P k s) : ∀ (m j : Nat) (Z : hS), hI P Z → hle (pn P) Z (foR (hhA P k) m j Z) ∧ hI P (foR (hhA P k) m j Z) ∧ ∀ t, j ≤ t → t < j + m → cvA P t k = true → (qa P t < pn P → tb (foR (hhA P k) m j Z).1 (pn P) (qa P t) 1) ∧ (¬ qa P t < pn P → ((foR (hhA P k) m j Z).2 k).testBit 1 = true) := by
  have hR := ((Rc_cl P).2 k s (Rc_lt hr).1 (Rc_lt hr).2 hr).1
  intro m
  induction m with
  | zero => intro s Z h; exact ⟨hle.rf, h, fun t h1 h2 => by omega⟩
  | succ m ih =>
    intro j Z h
    have h1 : hle (pn P) Z (hhA P k Z j) ∧ hI P (hhA P k Z j) ∧ (cvA P j k = true → (qa P j < pn P → tb (hhA P k Z j).1 (pn P) (qa P j) 1) ∧ (¬ qa P j < pn P → ((hhA P k Z j).2 k).testBit 1 = true)) := by
      unfold hhA
      split
      · next q =>
        have := hc_ok h (k := k) (j := qa P j) (s := 1) (by decide) (hR j q) (fun r => ⟨s, hr, Or.inl ⟨j, q, r⟩⟩)
        exact ⟨this.1, this.2.1, fun _ => this.2.2⟩
      · next q => exact ⟨hle.rf, h, fun r => absurd r q⟩
    have h2 := ih (j + 1) _ h1.2.1
    refine ⟨h1.1.tr h2.1, h2.2.1, fun t ht1 ht2 a => ?_⟩
    by_cases e : t = j
    · subst e
      exact ⟨fun b => h2.1.1 _ _ ((h1.2.2 a).1 b), fun b => h2.1.2 _ _ ((h1.2.2 a).2 b)⟩
    · exact h2.2.2 t (by omega) (by omega) a
theorem ha_ok {P : pT} {Z : hS} (h : hI P Z) {k s : Nat} (hr : Rc P k s) : hle (pn P) Z (haA P Z k s) ∧ hI P (haA P Z k s) ∧ flZ P (haA P Z k s) k s := by
  obtain ⟨hk, hs⟩ := Rc_lt hr
  have hR := (Rc_cl P).2 k s hk hs hr
  have h1 := hh_fold hr (qn P) 0 Z h
  unfold haA
  generalize foR (hhA P k) (qn P) 0 Z = Z1 at *
  obtain ⟨a1, a2, a3⟩ := h1
  have a3 : ∀ t, cvA P t k = true → (qa P t < pn P → tb Z1.1 (pn P) (qa P t) 1) ∧ (¬ qa P t < pn P → (Z1.2 k).testBit 1 = true) := fun t ht => a3 t (Nat.zero_le _) (by have := cv_lt ht; omega) ht
  split
  · next q =>
    have he := hR.2 q
    have ht := (fi_6 q).2
    generalize hte : s - tkA (opA P k) + gvA (opA P k) = t at *
    have h2 : hle (pn P) Z1 (hgA P k t Z1) ∧ hI P (hgA P k t Z1) ∧ (goA P k = true → (k + 1 < pn P → tb (hgA P k t Z1).1 (pn P) (k + 1) t) ∧ (¬ k + 1 < pn P → ((hgA P k t Z1).2 k).testBit 1 = true)) := by
      unfold hgA
      split
      · next g =>
        have := hc_ok a2 (k := k) (j := k + 1) (s := t) ht (he.1 g) (fun r => ⟨s, hr, Or.inr ⟨q, by unfold loA; simp [g]; exact Or.inl (by omega)⟩⟩)
        exact ⟨this.1, this.2.1, fun _ => this.2.2⟩
      · next g => exact ⟨hle.rf, a2, fun r => absurd r g⟩
    obtain ⟨b1, b2, b3⟩ := h2
    generalize hgA P k t Z1 = Z2 at *
    have h3 : hle (pn P) Z2 (hjA P k t Z2) ∧ hI P (hjA P k t Z2) ∧ (juA P k = true → (nuN P k < pn P → tb (hjA P k t Z2).1 (pn P) (nuN P k) t) ∧ (¬ nuN P k < pn P → ((hjA P k t Z2).2 k).testBit 1 = true)) := by
      unfold hjA
      split
      · next g =>
        have := hc_ok b2 (k := k) (j := nuN P k) (s := t) ht (he.2 g) (fun r => ⟨s, hr, Or.inr ⟨q, by unfold loA; simp [g]; exact Or.inr (by omega)⟩⟩)
        exact ⟨this.1, this.2.1, fun _ => this.2.2⟩
      · next g => exact ⟨hle.rf, b2, fun r => absurd r g⟩
    obtain ⟨c1, c2, c3⟩ := h3
    generalize hjA P k t Z2 = Z3 at *
    refine ⟨(a1.tr b1).tr c1, c2, fun j x y => (b1.tr c1).1 _ _ ((a3 j x).1 y), fun _ => ⟨fun x y => by rw [hte]; exact c1.1 _ _ ((b3 x).1 y), fun x y => by rw [hte]; exact (c3 x).1 y⟩, fun r => ?_, fun r => by rw [q] at r; cases r⟩
    rcases r with ⟨j, x, y⟩ | ⟨_, r⟩
    · exact (b1.tr c1).2 _ _ ((a3 j x).2 y)
    · unfold loA at r
      simp at r
      rcases r with ⟨x, y⟩ | ⟨x, y⟩
      · exact c1.2 _ _ ((b3 x).2 (by omega))
      · exact (c3 x).2 (by omega)
  · next q =>
    have q : fiA (opA P k) s = false := by simpa using q
    obtain ⟨g1, g2, g3, g4, g5, g6⟩ := a2
    have hg : hle (pn P) Z1 (Z1.1, va_up Z1.2 k (Z1.2 k ||| 8)) := ⟨fun _ _ r => r, fun i b r => by
      show (va_up Z1.2 k (Z1.2 k ||| 2 ^ 3) i).testBit b = true
      exact up_fb.mpr (Or.inl r)⟩
    refine ⟨a1.tr hg, ⟨g1, g2, fun i r => ?_, fun i r => ?_, g5, fun i => ?_⟩, fun j x y => (a3 j x).1 y, fun r => (by rw [q] at r; cases r), fun r => ?_, fun _ => ?_⟩
    · have r : (va_up Z1.2 k (Z1.2 k ||| 2 ^ 3) i).testBit 1 = true := r
      rcases up_fb.mp r with r | ⟨-, r⟩
      · exact g3 i r
      · cases r
    · have r : (va_up Z1.2 k (Z1.2 k ||| 2 ^ 3) i).testBit 3 = true := r
      rcases up_fb.mp r with r | ⟨r, -⟩
      · exact g4 i r
      · rw [r]; exact ⟨s, hr, q⟩
    · show va_up Z1.2 k (Z1.2 k ||| 8) i < 16
      unfold va_up; split
      · exact (or_16 _ (g6 k)).2
      · exact g6 i
    · rcases r with ⟨j, x, y⟩ | ⟨r, _⟩
      · exact hg.2 _ _ ((a3 j x).2 y)
      · rw [q] at r; cases r
    · show (va_up Z1.2 k (Z1.2 k ||| 2 ^ 3) k).testBit 3 = true
      exact up_fb.mpr (Or.inr ⟨rfl, rfl⟩)
theorem hm_ok {P : pT} {Z : hS} (h : hI P Z) {k s : Nat} (hk : k < pn P) : hle (pn P) Z (hmA P k Z s) ∧ hI P (hmA P k Z s) ∧ (tb Z.1 (pn P) k s → flZ P (hmA P k Z s) k s) := by
  unfold hmA
  split
  · next q =>
    have := ha_ok h (h.2.1 k s ⟨hk, q⟩)
    exact ⟨this.1, this.2.1, fun _ => this.2.2⟩
  · next q => exact ⟨hle.rf, h, fun r => absurd r.2 q⟩
theorem hm_fold {P : pT} {k : Nat} (hk : k < pn P) : ∀ (m s : Nat) (Z : hS), hI P Z → hle (pn P) Z (foR (hmA P k) m s Z) ∧ hI P (foR (hmA P k) m s Z) ∧ ∀ t, s ≤ t → t < s + m → tb Z.1 (pn P) k t → flZ P (foR (hmA P k) m s Z) k t := by
  intro m
  induction m with
  | zero => intro s Z h; exact ⟨hle.rf, h, fun t h1 h2 => by omega⟩
  | succ m ih =>
    intro s Z h
    have h1 := hm_ok h hk (s := s)
    have h2 := ih (s + 1) _ h1.2.1
    refine ⟨h1.1.tr h2.1, h2.2.1, fun t ht1 ht2 hb => ?_⟩
    by_cases e : t = s
    · subst e; exact (h1.2.2 hb).mo h2.1
    · exact h2.2.2 t (by omega) (by omega) (h1.1.1 _ _ hb)
theorem hi_fold {P : pT} : ∀ (m i : Nat) (Z : hS), i + m = pn P → hI P Z → hle (pn P) Z (foR (hiA P) m i Z) ∧ hI P (foR (hiA P) m i Z) ∧ ∀ k t, i ≤ k → tb Z.1 (pn P) k t → flZ P (foR (hiA P) m i Z) k t := by
  intro m
  induction m with
  | zero => intro i Z hi h; exact ⟨hle.rf, h, fun k t h1 h2 => by have := h2.1; omega⟩
  | succ m ih =>
    intro i Z hi h
    have h1 := hm_fold (P := P) (k := i) (by omega) 7 0 Z h
    have h2 := ih (i + 1) (hiA P Z i) (by omega) h1.2.1
    refine ⟨h1.1.tr h2.1, h2.2.1, fun k t hk hb => ?_⟩
    by_cases e : k = i
    · subst e
      exact (h1.2.2 t (Nat.zero_le _) (by have := (Rc_lt (h.2.1 k t hb)).2; omega) hb).mo h2.1
    · exact h2.2.2 k t (by omega) (h1.1.1 _ _ hb)
theorem hp_fold {P : pT} (hn : pn P ≤ 30) : ∀ (m p : Nat) (Z : hS), hI P Z → (0 < pn P → tb Z.1 (pn P) 0 0) → hle (pn P) Z (foR (hpA P) m p Z) ∧ hI P (foR (hpA P) m p Z) ∧ (210 < m + cnB Z.1 (pn P) → ∀ k t, Rc P k t → tb (foR (hpA P) m p Z).1 (pn P) k t ∧ flZ P (foR (hpA P) m p Z) k t) := by
  intro m
  induction m with
  | zero => intro p Z h _; exact ⟨hle.rf, h, fun q => by have := cnB_le Z.1 (pn P); omega⟩
  | succ m ih =>
    intro p Z h h0
    have h1 := hi_fold (P := P) (pn P) 0 Z (by omega) h
    have e1 : foR (hiA P) (pn P) 0 Z = hpA P Z p := rfl
    rw [e1] at h1
    have h2 := ih (p + 1) (hpA P Z p) h1.2.1 (fun q => h1.1.1 _ _ (h0 q))
    refine ⟨h1.1.tr h2.1, h2.2.1, fun hc k t hr => ?_⟩
    by_cases hnew : ∃ i s, tb (hpA P Z p).1 (pn P) i s ∧ ¬ tb Z.1 (pn P) i s
    · obtain ⟨i, s, r1, r2⟩ := hnew
      have := cnB_lt hn h1.1.1 (tb_6 (h1.2.1.1 i) r1.2) r1 r2
      exact h2.2.2 (by omega) k t hr
    · have hold : ∀ i s, tb (hpA P Z p).1 (pn P) i s → tb Z.1 (pn P) i s := fun i s r => Classical.byContradiction (fun q => hnew ⟨i, s, r, q⟩)
      have hcl : clR P (tb (hpA P Z p).1 (pn P)) := ⟨fun q => h1.1.1 _ _ (h0 q), fun k s _ _ r => by
        have := h1.2.2 k s (Nat.zero_le _) (hold k s r)
        exact ⟨this.1, this.2.1⟩⟩
      have hb := hr _ hcl
      exact ⟨h2.1.1 _ _ hb, (h1.2.2 k t (Nat.zero_le _) (hold k t hb)).mo h2.1⟩
theorem mz_ok {P : pT} (hn : pn P ≤ 30) (h0 : 0 < pn P) : hI P (mZA P) ∧ ∀ k t, Rc P k t → tb (mZA P).1 (pn P) k t ∧ flZ P (mZA P) k t := by
  have hb : ∀ i t, tb h0A.1 (pn P) i t → i = 0 ∧ t = 0 := by
    intro i t r
    have r2 : (va_up (fun _ => 0) 0 1 i).testBit t = true := r.2
    unfold va_up at r2
    by_cases e : i = 0
    · rw [if_pos e] at r2
      refine ⟨e, ?_⟩
      rw [show (1 : Nat) = 2 ^ 0 from rfl, Nat.testBit_two_pow] at r2
      exact (of_decide_eq_true r2).symm
    · rw [if_neg e] at r2; simp at r2
  have hI0 : hI P h0A := by
    refine ⟨fun i => ?_, fun i t r => ?_, fun k r => ?_, fun k r => ?_, fun i hi => ?_, fun k => by show 0 < 16; decide⟩
    · show va_up (fun _ => 0) 0 1 i < 128
      unfold va_up; split
      · decide
      · show 0 < 128; decide
    · obtain ⟨e1, e2⟩ := hb i t r
      rw [e1, e2]; exact (Rc_cl P).1 h0
    · have r : (0 : Nat).testBit 1 = true := r
      simp at r
    · have r : (0 : Nat).testBit 3 = true := r
      simp at r
    · show va_up (fun _ => 0) 0 1 i = 0
      unfold va_up; rw [if_neg (by omega)]
  have h1 := hp_fold hn 220 0 h0A hI0 (fun q => ⟨q, by show (va_up (fun _ => 0) 0 1 0).testBit 0 = true; unfold va_up; simp⟩)
  have e1 : foR (hpA P) 220 0 h0A = mZA P := rfl
  rw [e1] at h1
  exact ⟨h1.2.1, h1.2.2 (by omega)⟩
/-! both are the same, and so are the FAULTS -/
theorem sz_eq {P : pT} (hn : pn P ≤ 30) (h0 : 0 < pn P) (g : Bool) {k : Nat} (hk : k < pn P) : (cZA P g).1 k = (mZA P).1 k := by
  have h1 := cz_ok hn g h0
  have h2 := mz_ok hn h0
  apply Nat.eq_of_testBit_eq
  intro t
  have e : tb (cZA P g).1 (pn P) k t ↔ tb (mZA P).1 (pn P) k t := by
    rw [h1.2]
    exact ⟨fun r => (h2.2 k t r).1, fun r => h2.1.2.1 k t r⟩
  unfold tb at e
  simp only [hk, true_and] at e
  cases a : ((cZA P g).1 k).testBit t <;> cases b : ((mZA P).1 k).testBit t <;> simp_all
theorem hl_iff {P : pT} {k : Nat} : hlA P k = true ↔ ∃ j, cvA P j k = true ∧ ¬ qa P j < pn P := by
  unfold hlA
  rw [foR_or (s := hlS P k) (f := fun j => cvA P j k && !decide (qa P j < pn P)) (fun _ _ => rfl)]
  constructor
  · rintro (h | ⟨j, -, -, h⟩)
    · cases h
    · simp at h; exact ⟨j, h.1, by omega⟩
  · rintro ⟨j, h1, h2⟩
    exact Or.inr ⟨j, Nat.zero_le _, by have := cv_lt h1; omega, by simp [h1]; omega⟩
theorem fp_iff {P : pT} {Z : zS} {k : Nat} : ∀ (m s : Nat) (p : Bool × Bool), ((foR (ffA P Z k) m s p).1 = true ↔ (p.1 = true ∨ ∃ t, s ≤ t ∧ t < s + m ∧ (snA (pn P) Z k).testBit t = true ∧ fiA (opA P k) t = true)) ∧ ((foR (ffA P Z k) m s p).2 = true ↔ (p.2 = true ∧ ∀ t, s ≤ t → t < s + m → (snA (pn P) Z k).testBit t = true → fiA (opA P k) t = true)) := by
  intro m
  induction m with
  | zero => intro s p; exact ⟨⟨fun h => Or.inl h, fun h => h.elim id (fun ⟨t, h1, h2, _⟩ => by omega)⟩, ⟨fun h => ⟨h, fun t h1 h2 => by omega⟩, fun h => h.1⟩⟩
  | succ m ih =>
    intro s p
    have h := ih (s + 1) (ffA P Z k p s)
    show ((foR (ffA P Z k) m (s + 1) (ffA P Z k p s)).1 = true ↔ _) ∧ ((foR (ffA P Z k) m (s + 1) (ffA P Z k p s)).2 = true ↔ _)
    rw [h.1, h.2]
    constructor
    · unfold ffA
      simp only [Bool.or_eq_true, Bool.and_eq_true]
      constructor
      · rintro ((h | h) | ⟨t, h1, h2, h3⟩)
        · exact Or.inl h
        · exact Or.inr ⟨s, Nat.le_refl _, by omega, h⟩
        · exact Or.inr ⟨t, by omega, by omega, h3⟩
      · rintro (h | ⟨t, h1, h2, h3⟩)
        · exact Or.inl (Or.inl h)
        · by_cases e : t = s
          · subst e; exact Or.inl (Or.inr h3)
          · exact Or.inr ⟨t, by omega, by omega, h3⟩
    · unfold ffA
      simp only [Bool.or_eq_true, Bool.and_eq_true, Bool.not_eq_true']
      constructor
      · rintro ⟨⟨h1, h2⟩, h3⟩
        refine ⟨h1, fun t a b c => ?_⟩
        by_cases e : t = s
        · subst e
          rcases h2 with h2 | h2
          · rw [c] at h2; cases h2
          · exact h2
        · exact h3 t (by omega) (by omega) c
      · rintro ⟨h1, h2⟩
        refine ⟨⟨h1, ?_⟩, fun t a b c => h2 t (by omega) (by omega) c⟩
        cases e : (snA (pn P) Z k).testBit s
        · exact Or.inl rfl
        · exact Or.inr (h2 s (Nat.le_refl _) (by omega) e)
theorem nz_bit {m : Nat} (hm : m < 128) : (¬ m = 0) ↔ ∃ t, m.testBit t = true := by
  constructor
  · intro h
    exact Classical.byContradiction (fun q => h (Nat.eq_of_testBit_eq (fun t => by
      cases e : m.testBit t
      · simp
      · exact absurd ⟨t, e⟩ q)))
  · rintro ⟨t, h⟩ e
    rw [e] at h; simp at h
theorem fa_eq {P : pT} (hn : pn P ≤ 30) (h0 : 0 < pn P) (g : Bool) {k : Nat} (hk : k < pn P) : faA P (cZA P g) k = hfA (mZA P) k := by
  have h2 := mz_ok hn h0
  have hs : snA (pn P) (cZA P g) k = (mZA P).1 k := by rw [← sz_eq hn h0 g hk]; exact if_pos hk
  have hfp := fp_iff (P := P) (Z := cZA P g) (k := k) 7 0 (false, true)
  have e1 : foR (ffA P (cZA P g) k) 7 0 (false, true) = fpA P (cZA P g) k := rfl
  rw [e1, hs] at hfp
  have hb6 : ∀ t, ((mZA P).1 k).testBit t = true → t < 0 + 7 := fun t ht => by have := tb_6 (h2.1.1 k) ht; omega
  have c1 : (((fpA P (cZA P g) k).1 = true ∧ loA P k = true) ∨ (¬ (mZA P).1 k = 0 ∧ hlA P k = true)) ↔ ((mZA P).2 k).testBit 1 = true := by
    constructor
    · rintro (⟨a, b⟩ | ⟨a, b⟩)
      · rcases hfp.1.mp a with q | ⟨t, -, -, q1, q2⟩
        · cases q
        · exact (h2.2 k t (h2.1.2.1 k t ⟨hk, q1⟩)).2.2.2.1 (Or.inr ⟨q2, b⟩)
      · obtain ⟨t, ht⟩ := (nz_bit (h2.1.1 k)).mp a
        exact (h2.2 k t (h2.1.2.1 k t ⟨hk, ht⟩)).2.2.2.1 (Or.inl (hl_iff.mp b))
    · intro q
      obtain ⟨s, hr, ho⟩ := h2.1.2.2.1 k q
      have hb := (h2.2 k s hr).1
      rcases ho with ho | ⟨ho1, ho2⟩
      · exact Or.inr ⟨(nz_bit (h2.1.1 k)).mpr ⟨s, hb.2⟩, hl_iff.mpr ho⟩
      · exact Or.inl ⟨hfp.1.mpr (Or.inr ⟨s, Nat.zero_le _, hb6 s hb.2, hb.2, ho1⟩), ho2⟩
  have c3 : (¬ (fpA P (cZA P g) k).2 = true) ↔ ((mZA P).2 k).testBit 3 = true := by
    rw [hfp.2]
    constructor
    · intro q
      refine Classical.byContradiction (fun r => q ⟨rfl, fun t _ _ ht => ?_⟩)
      cases e : fiA (opA P k) t
      · exact absurd ((h2.2 k t (h2.1.2.1 k t ⟨hk, ht⟩)).2.2.2.2 e) r
      · rfl
    · rintro q ⟨-, r⟩
      obtain ⟨s, hr, ho⟩ := h2.1.2.2.2.1 k q
      have hb := (h2.2 k s hr).1
      rw [r s (Nat.zero_le _) (hb6 s hb.2) hb.2] at ho
      cases ho
  unfold faA hfA
  rw [hs]
  by_cases q1 : ((mZA P).2 k).testBit 1 = true
  · rw [if_pos q1, if_pos (c1.mpr q1)]
  · rw [if_neg q1, if_neg (fun r => q1 (c1.mp r))]
    by_cases q2 : 1 < pcA ((mZA P).1 k)
    · rw [if_pos q2, if_pos q2]
    · rw [if_neg q2, if_neg q2]
      by_cases q3 : ((mZA P).2 k).testBit 3 = true
      · rw [if_pos q3, if_neg (c3.mpr q3)]
      · rw [if_neg q3, if_pos (Classical.byContradiction (fun r => q3 (c3.mp r)))]

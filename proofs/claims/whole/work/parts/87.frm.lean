/-! the FRAMES, and how they are written: both are the same -/
theorem mk_iff {n : Nat} {F : fS} {j i : Nat} : (mkA n F j).2.2.1 i = true ↔ (F.2.2.1 i = true ∨ (i = j ∧ i < n)) := by
  unfold mkA
  split
  · next q =>
    show va_up F.2.2.1 j true i = true ↔ _
    unfold va_up
    by_cases e : i = j
    · rw [if_pos e]; exact ⟨fun _ => Or.inr ⟨e, by omega⟩, fun _ => rfl⟩
    · rw [if_neg e]; exact ⟨fun h => Or.inl h, fun h => h.elim id (fun r => absurd r.1 e)⟩
  · next q => exact ⟨fun h => Or.inl h, fun h => h.elim id (fun r => by omega)⟩
def smF (F G : fS) : Prop := G.1 = F.1 ∧ G.2.1 = F.2.1 ∧ G.2.2.2 = F.2.2.2
theorem smF.tr {F G E : fS} (a : smF F G) (b : smF G E) : smF F E := ⟨b.1.trans a.1, b.2.1.trans a.2.1, b.2.2.trans a.2.2⟩
theorem smF.rf {F : fS} : smF F F := ⟨rfl, rfl, rfl⟩
theorem mk_sm {n : Nat} {F : fS} {j : Nat} : smF F (mkA n F j) := by
  unfold mkA; split
  · exact ⟨rfl, rfl, rfl⟩
  · exact smF.rf
theorem mh_fold {P : pT} {k i : Nat} : ∀ (m j : Nat) (F : fS), smF F (foR (mhA P k) m j F) ∧ ((foR (mhA P k) m j F).2.2.1 i = true ↔ (F.2.2.1 i = true ∨ ∃ t, j ≤ t ∧ t < j + m ∧ cvA P t k = true ∧ qa P t = i ∧ i < pn P)) := by
  intro m
  induction m with
  | zero => intro j F; exact ⟨smF.rf, fun h => Or.inl h, fun h => h.elim id (fun ⟨t, h1, h2, _⟩ => by omega)⟩
  | succ m ih =>
    intro j F
    have h1 : smF F (mhA P k F j) ∧ ((mhA P k F j).2.2.1 i = true ↔ (F.2.2.1 i = true ∨ (cvA P j k = true ∧ qa P j = i ∧ i < pn P))) := by
      unfold mhA
      split
      · next q =>
        refine ⟨mk_sm, ?_⟩
        rw [mk_iff]
        exact ⟨fun h => h.imp id (fun r => ⟨q, r.1.symm, r.2⟩), fun h => h.imp id (fun r => ⟨r.2.1.symm, r.2.2⟩)⟩
      · next q => exact ⟨smF.rf, fun h => Or.inl h, fun h => h.elim id (fun r => absurd r.1 q)⟩
    have h2 := ih (j + 1) (mhA P k F j)
    refine ⟨h1.1.tr h2.1, ?_⟩
    show (foR (mhA P k) m (j + 1) (mhA P k F j)).2.2.1 i = true ↔ _
    rw [h2.2, h1.2]
    constructor
    · rintro ((h | h) | ⟨t, a, b, c⟩)
      · exact Or.inl h
      · exact Or.inr ⟨j, Nat.le_refl _, by omega, h⟩
      · exact Or.inr ⟨t, by omega, by omega, c⟩
    · rintro (h | ⟨t, a, b, c⟩)
      · exact Or.inl (Or.inl h)
      · by_cases e : t = j
        · subst e; exact Or.inl (Or.inr c)
        · exact Or.inr ⟨t, by omega, by omega, c⟩
def mnP (P : pT) (k i : Nat) : Prop := i < pn P ∧ ((juA P k = true ∧ nuN P k = i) ∨ ∃ t, t < qn P ∧ cvA P t k = true ∧ qa P t = i)
theorem mw_ok {P : pT} {F : fS} {k i : Nat} : smF F (mwA P F k) ∧ ((mwA P F k).2.2.1 i = true ↔ (F.2.2.1 i = true ∨ mnP P k i)) := by
  have h1 : smF F (if juA P k = true then mkA (pn P) F (nuN P k) else F) ∧ ((if juA P k = true then mkA (pn P) F (nuN P k) else F).2.2.1 i = true ↔ (F.2.2.1 i = true ∨ (juA P k = true ∧ nuN P k = i ∧ i < pn P))) := by
    split
    · next q =>
      refine ⟨mk_sm, ?_⟩
      rw [mk_iff]
      exact ⟨fun h => h.imp id (fun r => ⟨q, r.1.symm, r.2⟩), fun h => h.imp id (fun r => ⟨r.2.1.symm, r.2.2⟩)⟩
    · next q => exact ⟨smF.rf, fun h => Or.inl h, fun h => h.elim id (fun r => absurd r.1 q)⟩
  unfold mwA
  generalize (if juA P k = true then mkA (pn P) F (nuN P k) else F) = G at *
  have h2 := mh_fold (P := P) (k := k) (i := i) (qn P) 0 G
  refine ⟨h1.1.tr h2.1, ?_⟩
  rw [h2.2, h1.2]
  unfold mnP
  constructor
  · rintro ((h | ⟨h, h', h''⟩) | ⟨t, a, b, c, d, e⟩)
    · exact Or.inl h
    · exact Or.inr ⟨h'', Or.inl ⟨h, h'⟩⟩
    · exact Or.inr ⟨e, Or.inr ⟨t, by omega, c, d⟩⟩
  · rintro (h | ⟨e, ⟨h, h'⟩ | ⟨t, b, c, d⟩⟩)
    · exact Or.inl (Or.inl h)
    · exact Or.inl (Or.inr ⟨h, h', e⟩)
    · exact Or.inr ⟨t, Nat.zero_le _, by omega, c, d, e⟩
theorem g1_fold {P : pT} {S : sS} {i : Nat} : ∀ (m j : Nat) (F : fS), smF F (foR (g1A P S) m j F) ∧ ((foR (g1A P S) m j F).2.2.1 i = true ↔ (F.2.2.1 i = true ∨ ∃ k, j ≤ k ∧ k < j + m ∧ k < pn P ∧ S.2.1 k = true ∧ mnP P k i)) := by
  intro m
  induction m with
  | zero => intro j F; exact ⟨smF.rf, fun h => Or.inl h, fun h => h.elim id (fun ⟨t, h1, h2, _⟩ => by omega)⟩
  | succ m ih =>
    intro j F
    have h1 : smF F (g1A P S F j) ∧ ((g1A P S F j).2.2.1 i = true ↔ (F.2.2.1 i = true ∨ (j < pn P ∧ S.2.1 j = true ∧ mnP P j i))) := by
      unfold g1A
      split
      · next q =>
        simp only [Bool.and_eq_true, decide_eq_true_eq] at q
        refine ⟨mw_ok (i := i) |>.1, ?_⟩
        rw [mw_ok.2]
        exact ⟨fun h => h.imp id (fun r => ⟨q.1, q.2, r⟩), fun h => h.imp id (fun r => r.2.2)⟩
      · next q =>
        simp only [Bool.and_eq_true, decide_eq_true_eq] at q
        exact ⟨smF.rf, fun h => Or.inl h, fun h => h.elim id (fun r => absurd ⟨r.1, r.2.1⟩ q)⟩
    have h2 := ih (j + 1) (g1A P S F j)
    refine ⟨h1.1.tr h2.1, ?_⟩
    show (foR (g1A P S) m (j + 1) (g1A P S F j)).2.2.1 i = true ↔ _
    rw [h2.2, h1.2]
    constructor
    · rintro ((h | h) | ⟨t, a, b, c⟩)
      · exact Or.inl h
      · exact Or.inr ⟨j, Nat.le_refl _, by omega, h⟩
      · exact Or.inr ⟨t, by omega, by omega, c⟩
    · rintro (h | ⟨t, a, b, c⟩)
      · exact Or.inl (Or.inl h)
      · by_cases e : t = j
        · subst e; exact Or.inl (Or.inr c)
        · exact Or.inr ⟨t, by omega, by omega, c⟩
/-- rising numbers -/
def apS (b : Nat → Bool) (p : (Nat → Nat) × Nat) (i : Nat) : (Nat → Nat) × Nat := if b i = true then (va_up p.1 p.2 i, p.2 + 1) else p
def apL (p : (Nat → Nat) × Nat) : List Nat := (List.range p.2).map p.1
theorem mp_cg {α : Type} {f g : Nat → α} : ∀ (l : List Nat), (∀ i, i ∈ l → f i = g i) → l.map f = l.map g
  | [], _ => rfl
  | x :: l, h => by rw [List.map_cons, List.map_cons, h x (List.mem_cons_self ..), mp_cg l (fun i hi => h i (List.mem_cons_of_mem _ hi))]
theorem ap_s {b : Nat → Bool} {p : (Nat → Nat) × Nat} {i : Nat} : apL (apS b p i) = apL p ++ (if b i = true then [i] else []) := by
  unfold apS
  split
  · have e1 : ∀ j, j ∈ List.range p.2 → va_up p.1 p.2 i j = p.1 j := fun j hj => if_neg (by have := List.mem_range.mp hj; omega)
    show (List.range (p.2 + 1)).map (va_up p.1 p.2 i) = (List.range p.2).map p.1 ++ [i]
    rw [List.range_succ, List.map_append, List.map_cons, List.map_nil, mp_cg (f := va_up p.1 p.2 i) (g := p.1) _ e1, show va_up p.1 p.2 i p.2 = i from if_pos rfl]
  · rw [List.append_nil]
theorem ap_fold {b : Nat → Bool} : ∀ (m i : Nat) (p : (Nat → Nat) × Nat), apL (foR (apS b) m i p) = apL p ++ (List.range' i m).filter b := by
  intro m
  induction m with
  | zero => intro i p; show apL p = _; simp
  | succ m ih =>
    intro i p
    show apL (foR (apS b) m (i + 1) (apS b p i)) = _
    rw [ih, ap_s, List.range'_succ, List.filter_cons, List.append_assoc]
    split <;> simp
/-- the class's FRAMES, as they grow -/
def FI (S : sS) (b : Nat → Bool) (i : Nat) (F : fS) : Prop := F.2.2.2.2 ≤ i ∧ (∀ k, k < F.2.2.2.2 → F.1 k < i ∧ b (F.1 k) = true ∧ F.2.1 (F.1 k) = nI k ∧ F.2.2.2.1 k = S.1 (F.1 k)) ∧ (∀ j, ¬ F.2.1 j = -1 → ∃ k, k < F.2.2.2.2 ∧ F.1 k = j) ∧ (∀ j, j < i → b j = true → ¬ F.2.1 j = -1) ∧ (∀ k, k + 1 < F.2.2.2.2 → F.1 k < F.1 (k + 1))
theorem g2_ok {P : pT} {S : sS} {mt : Nat → Bool} {F : fS} {i : Nat} (hi : i < 30) (hm : F.2.2.1 = mt) (hF : FI S (fun j => mt j && (decide (j < pn P) && S.2.1 j)) i F) : FI S (fun j => mt j && (decide (j < pn P) && S.2.1 j)) (i + 1) (g2A P S F i) ∧ (g2A P S F i).2.2.1 = mt ∧ ((g2A P S F i).1, (g2A P S F i).2.2.2.2) = apS (fun j => mt j && (decide (j < pn P) && S.2.1 j)) (F.1, F.2.2.2.2) i := by
  obtain ⟨h1, h2, h3, h4, h5⟩ := hF
  unfold g2A
  by_cases q : F.2.2.1 i = true ∧ (decide (i < pn P) && S.2.1 i) = true
  · have qb : (mt i && (decide (i < pn P) && S.2.1 i)) = true := by rw [hm] at q; rw [q.1, q.2]; rfl
    rw [if_pos q]
    have hin : i < pn P := by have := q.2; simp at this; exact this.1
    unfold adA
    rw [if_pos ⟨by omega, hin⟩]
    refine ⟨⟨by show F.2.2.2.2 + 1 ≤ i + 1; omega, fun k hk => ?_, fun j hj => ?_, fun j hj hb => ?_, fun k hk => ?_⟩, hm, ?_⟩
    · have hk : k < F.2.2.2.2 + 1 := hk
      show va_up F.1 F.2.2.2.2 i k < i + 1 ∧ (mt (va_up F.1 F.2.2.2.2 i k) && (decide (va_up F.1 F.2.2.2.2 i k < pn P) && S.2.1 (va_up F.1 F.2.2.2.2 i k))) = true ∧ va_up F.2.1 i (nI F.2.2.2.2) (va_up F.1 F.2.2.2.2 i k) = nI k ∧ va_up F.2.2.2.1 F.2.2.2.2 (S.1 i) k = S.1 (va_up F.1 F.2.2.2.2 i k)
      by_cases e : k = F.2.2.2.2
      · have e1 : va_up F.1 F.2.2.2.2 i k = i := if_pos e
        have e2 : va_up F.2.2.2.1 F.2.2.2.2 (S.1 i) k = S.1 i := if_pos e
        rw [e1, e2]
        exact ⟨by omega, qb, by rw [e]; exact if_pos rfl, rfl⟩
      · have e1 : va_up F.1 F.2.2.2.2 i k = F.1 k := if_neg e
        have e2 : va_up F.2.2.2.1 F.2.2.2.2 (S.1 i) k = F.2.2.2.1 k := if_neg e
        rw [e1, e2]
        have hh := h2 k (by omega)
        exact ⟨by omega, hh.2.1, by rw [show va_up F.2.1 i (nI F.2.2.2.2) (F.1 k) = F.2.1 (F.1 k) from if_neg (by omega)]; exact hh.2.2.1, hh.2.2.2⟩
    · have hj : ¬ va_up F.2.1 i (nI F.2.2.2.2) j = -1 := hj
      by_cases e : j = i
      · exact ⟨F.2.2.2.2, by show F.2.2.2.2 < F.2.2.2.2 + 1; omega, by show va_up F.1 F.2.2.2.2 i F.2.2.2.2 = j; rw [e]; exact if_pos rfl⟩
      · rw [show va_up F.2.1 i (nI F.2.2.2.2) j = F.2.1 j from if_neg e] at hj
        obtain ⟨k, a1, a2⟩ := h3 j hj
        refine ⟨k, by show k < F.2.2.2.2 + 1; omega, ?_⟩
        show va_up F.1 F.2.2.2.2 i k = j
        rw [show va_up F.1 F.2.2.2.2 i k = F.1 k from if_neg (by omega)]; exact a2
    · show ¬ va_up F.2.1 i (nI F.2.2.2.2) j = -1
      by_cases e : j = i
      · rw [show va_up F.2.1 i (nI F.2.2.2.2) j = nI F.2.2.2.2 from if_pos e]
        exact nI_m1 _ (by omega)
      · rw [show va_up F.2.1 i (nI F.2.2.2.2) j = F.2.1 j from if_neg e]
        exact h4 j (by omega) hb
    · have hk : k + 1 < F.2.2.2.2 + 1 := hk
      show va_up F.1 F.2.2.2.2 i k < va_up F.1 F.2.2.2.2 i (k + 1)
      rw [show va_up F.1 F.2.2.2.2 i k = F.1 k from if_neg (by omega)]
      by_cases e : k + 1 = F.2.2.2.2
      · rw [show va_up F.1 F.2.2.2.2 i (k + 1) = i from if_pos e]
        exact (h2 k (by omega)).1
      · rw [show va_up F.1 F.2.2.2.2 i (k + 1) = F.1 (k + 1) from if_neg e]
        exact h5 k (by omega)
    · unfold apS; rw [if_pos qb]
  · have qb : ¬ (mt i && (decide (i < pn P) && S.2.1 i)) = true := fun r => by
      rw [Bool.and_eq_true] at r
      exact q ⟨by rw [hm]; exact r.1, r.2⟩
    rw [if_neg q]
    refine ⟨⟨by omega, fun k hk => ⟨by have := (h2 k hk).1; omega, (h2 k hk).2⟩, h3, fun j hj hb => ?_, h5⟩, hm, ?_⟩
    · by_cases e : j = i
      · subst e; exact absurd hb qb
      · exact h4 j (by omega) hb
    · unfold apS; rw [if_neg qb]
theorem g2_fold {P : pT} {S : sS} {mt : Nat → Bool} : ∀ (m i : Nat) (F : fS), i + m = 30 → F.2.2.1 = mt → FI S (fun j => mt j && (decide (j < pn P) && S.2.1 j)) i F → FI S (fun j => mt j && (decide (j < pn P) && S.2.1 j)) 30 (foR (g2A P S) m i F) ∧ ((foR (g2A P S) m i F).1, (foR (g2A P S) m i F).2.2.2.2) = foR (apS (fun j => mt j && (decide (j < pn P) && S.2.1 j))) m i (F.1, F.2.2.2.2) := by
  intro m
  induction m with
  | zero =>
    intro i F hi hm hF
    have : i = 30 := by omega
    subst this
    exact ⟨hF, rfl⟩
  | succ m ih =>
    intro i F hi hm hF
    have h1 := g2_ok (P := P) (by omega) hm hF
    have h2 := ih (i + 1) _ (by omega) h1.2.1 h1.1
    refine ⟨h2.1, ?_⟩
    show _ = foR (apS _) m (i + 1) (apS _ (F.1, F.2.2.2.2) i)
    rw [← h1.2.2]
    exact h2.2
/-- what gather leaves -/
theorem ga_ok {P : pT} {S : sS} {F : fS} (hE : ∀ j, iFA P (hN S) j = true → S.2.1 j = true) : FI S (fun j => decide (j < pn P) && iFA P (hN S) j) 30 (gaA P S F) ∧ apL ((gaA P S F).1, (gaA P S F).2.2.2.2) = (List.range' 0 30).filter (fun j => decide (j < pn P) && iFA P (hN S) j) := by
  have h1 := fun i => g1_fold (P := P) (S := S) (i := i) (pn P) 0 (f0A F)
  have hb : (fun j => (foR (g1A P S) (pn P) 0 (f0A F)).2.2.1 j && (decide (j < pn P) && S.2.1 j)) = (fun j => decide (j < pn P) && iFA P (hN S) j) := by
    funext j
    have e : ((foR (g1A P S) (pn P) 0 (f0A F)).2.2.1 j && (decide (j < pn P) && S.2.1 j)) = true ↔ (decide (j < pn P) && iFA P (hN S) j) = true := by
      simp only [Bool.and_eq_true, decide_eq_true_eq]
      rw [(h1 j).2, iFA_iff]
      constructor
      · rintro ⟨h | ⟨k, -, -, c, d, e⟩, h2, h3⟩
        · cases h
        · exact ⟨h2, k, c, by unfold hN; rw [if_pos d]; decide, e.2⟩
      · rintro ⟨h2, k, c, d, e⟩
        have d' : S.2.1 k = true := by
          unfold hN at d
          by_cases q : S.2.1 k = true
          · exact q
          · rw [if_neg q] at d; exact absurd rfl d
        exact ⟨Or.inr ⟨k, Nat.zero_le _, by omega, c, d', h2, e⟩, h2, hE j (iFA_iff.mpr ⟨k, c, d, e⟩)⟩
    cases x : ((foR (g1A P S) (pn P) 0 (f0A F)).2.2.1 j && (decide (j < pn P) && S.2.1 j)) <;> cases y : (decide (j < pn P) && iFA P (hN S) j)
    · rfl
    · rw [e.mpr y] at x; cases x
    · rw [e.mp x] at y; cases y
    · rfl
  have h2 := g2_fold (P := P) (S := S) (mt := (foR (g1A P S) (pn P) 0 (f0A F)).2.2.1) 30 0 ((foR (g1A P S) (pn P) 0 (f0A F)).1, (foR (g1A P S) (pn P) 0 (f0A F)).2.1, (foR (g1A P S) (pn P) 0 (f0A F)).2.2.1, (foR (g1A P S) (pn P) 0 (f0A F)).2.2.2.1, 0) (by decide) rfl ⟨Nat.le_refl _, fun k hk => (by cases hk), fun j hj => absurd (show (foR (g1A P S) (pn P) 0 (f0A F)).2.1 j = -1 by rw [(h1 0).1.2.1]; rfl) hj, fun j hj => (by omega), fun k hk => (by have hk : k + 1 < 0 := hk; omega)⟩
  rw [hb] at h2
  have e1 : foR (g2A P S) 30 0 ((foR (g1A P S) (pn P) 0 (f0A F)).1, (foR (g1A P S) (pn P) 0 (f0A F)).2.1, (foR (g1A P S) (pn P) 0 (f0A F)).2.2.1, (foR (g1A P S) (pn P) 0 (f0A F)).2.2.2.1, 0) = gaA P S F := rfl
  rw [e1] at h2
  refine ⟨h2.1, ?_⟩
  rw [h2.2, ap_fold]
  rfl

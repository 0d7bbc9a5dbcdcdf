theorem lf_s {P : pT} {Z : zS} {p : Nat × Nat} (h : ¬ p.1 = 0) : ∀ (m i : Nat), lfA P Z m i p = p
  | 0, _ => rfl
  | m + 1, i => by show (if _ then _ else _) = _; rw [if_neg h]
theorem lf_n {P : pT} {Z : zS} {Y : hS} : ∀ (n m i b : Nat), n ≤ m → ¬ (lfN Y n i).1 = 0 → (∀ k, i ≤ k → k < i + n → faA P Z k = hfA Y k) → lfA P Z m i (0, b) = lfN Y n i := by
  intro n
  induction n with
  | zero => intro m i b _ h; exact absurd rfl h
  | succ n ih =>
    intro m i b hm h hf
    obtain ⟨m, rfl⟩ : ∃ q, m = q + 1 := ⟨m - 1, by omega⟩
    have e1 : lfA P Z (m + 1) i (0, b) = lfA P Z m (i + 1) (faA P Z i, i) := by show (if _ then _ else _) = _; rw [if_pos rfl]
    rw [e1, hf i (Nat.le_refl _) (by omega)]
    by_cases q : hfA Y i = 0
    · have e2 : lfN Y (n + 1) i = lfN Y n (i + 1) := by show (if _ then _ else _) = _; rw [if_pos q]
      rw [e2] at h ⊢
      rw [q]
      exact ih m (i + 1) i (by omega) h (fun k h1 h2 => hf k (by omega) (by omega))
    · have e2 : lfN Y (n + 1) i = (hfA Y i, i) := by show (if _ then _ else _) = _; rw [if_neg q]
      rw [e2]
      exact lf_s q m (i + 1)
theorem lf_0 {P : pT} {Z : zS} : ∀ (m i b : Nat), (∀ k, i ≤ k → k < i + m → faA P Z k = 0) → lfA P Z m i (0, b) = (0, if m = 0 then b else i + m - 1) := by
  intro m
  induction m with
  | zero => intro i b _; rfl
  | succ m ih =>
    intro i b h
    have e1 : lfA P Z (m + 1) i (0, b) = lfA P Z m (i + 1) (faA P Z i, i) := by show (if _ then _ else _) = _; rw [if_pos rfl]
    rw [e1, h i (Nat.le_refl _) (by omega), ih (i + 1) i (fun k h1 h2 => h k (by omega) (by omega)), if_neg (show ¬ m + 1 = 0 by omega)]
    congr 1
    split <;> omega
theorem lfN_0 {Y : hS} : ∀ (n i : Nat), (lfN Y n i).1 = 0 → ∀ k, i ≤ k → k < i + n → hfA Y k = 0 := by
  intro n
  induction n with
  | zero => intro i _ k h1 h2; omega
  | succ n ih =>
    intro i h k h1 h2
    by_cases q : hfA Y i = 0
    · have e2 : lfN Y (n + 1) i = lfN Y n (i + 1) := by show (if _ then _ else _) = _; rw [if_pos q]
      rw [e2] at h
      by_cases e : k = i
      · rw [e]; exact q
      · exact ih (i + 1) h k (by omega) (by omega)
    · have e2 : lfN Y (n + 1) i = (hfA Y i, i) := by show (if _ then _ else _) = _; rw [if_neg q]
      rw [e2] at h
      exact absurd h q
theorem fa_out {P : pT} {Z : zS} {k : Nat} (hk : ¬ k < pn P) : faA P Z k = 0 := by
  have hs : snA (pn P) Z k = 0 := if_neg hk
  have hfp := fp_iff (P := P) (Z := Z) (k := k) 7 0 (false, true)
  have e1 : foR (ffA P Z k) 7 0 (false, true) = fpA P Z k := rfl
  rw [e1, hs] at hfp
  have c1 : ¬ (fpA P Z k).1 = true := fun q => by
    rcases hfp.1.mp q with r | ⟨t, -, -, r, -⟩
    · cases r
    · simp at r
  have c2 : (fpA P Z k).2 = true := hfp.2.mpr ⟨rfl, fun t _ _ r => by simp at r⟩
  unfold faA
  rw [hs, if_neg (by rintro (⟨a, -⟩ | ⟨a, -⟩); exact c1 a; exact a rfl), if_neg (by decide), if_pos c2]
theorem lfM_5 (P : pT) : (lfM P).1 < 5 := by
  unfold lfM
  split
  · decide
  · have : ∀ n i, (lfN (mZA P) n i).1 < 5 := by
      intro n
      induction n with
      | zero => intro i; show 0 < 5; decide
      | succ n ih =>
        intro i
        show (if _ then _ else _ : Nat × Nat).1 < 5
        split
        · exact ih _
        · have := hf_4 (mZA P) i; show hfA _ _ < 5; omega
    exact this _ _
theorem lf_f {P : pT} (hn : pn P ≤ 30) (h : ¬ (lfM P).1 = 0) (g : Bool) : lfG P g = lfM P := by
  by_cases h0 : pn P = 0
  · have e : lfM P = (1, 0) := by unfold lfM; rw [if_pos h0]
    rw [e]
    unfold lfG
    rw [if_pos h0]
    exact lf_s (by decide) 30 0
  · have e : lfM P = lfN (mZA P) (pn P) 0 := by unfold lfM; rw [if_neg h0]
    rw [e] at h ⊢
    unfold lfG
    rw [if_neg h0]
    exact lf_n (pn P) 30 0 0 hn h (fun k _ hk => fa_eq hn (by omega) g (by omega))
theorem lf_00 {P : pT} (hn : pn P ≤ 30) (h : (lfM P).1 = 0) : 0 < pn P ∧ (∀ k, k < pn P → hfA (mZA P) k = 0) ∧ ∀ g, lfG P g = (0, 29) := by
  by_cases h0 : pn P = 0
  · have e : lfM P = (1, 0) := by unfold lfM; rw [if_pos h0]
    rw [e] at h; cases h
  · have e : lfM P = lfN (mZA P) (pn P) 0 := by unfold lfM; rw [if_neg h0]
    rw [e] at h
    have hz := lfN_0 (pn P) 0 h
    refine ⟨by omega, fun k hk => hz k (Nat.zero_le _) (by omega), fun g => ?_⟩
    unfold lfG
    rw [if_neg h0]
    have := lf_0 (P := P) (Z := cZA P g) 30 0 0 (fun k _ _ => by
      by_cases hk : k < pn P
      · rw [fa_eq hn (by omega) g hk]; exact hz k (Nat.zero_le _) (by omega)
      · exact fa_out hk)
    exact this
theorem hi_u {m s : Nat} (hm : m < 128) (h : ¬ 1 < pcA m) (hs : m.testBit s = true) : hiO m = s := by
  have h6 := tb_6 hm hs
  have : ∀ m, m < 128 → ∀ s, s < 7 → ¬ 1 < pcA m → m.testBit s = true → hiO m = s := by decide +kernel
  exact this m hm s (by omega) h hs
def hhF (P : pT) (k : Nat) : Nat := hiO ((mZA P).1 k)
def rcF (P : pT) (k : Nat) : Bool := decide (k < pn P) && decide (¬ (mZA P).1 k = 0)
theorem hf_0 {Z : hS} {i : Nat} (h : hfA Z i = 0) : (Z.2 i).testBit 1 = false ∧ ¬ 1 < pcA (Z.1 i) ∧ (Z.2 i).testBit 3 = false := by
  unfold hfA at h
  split at h
  · cases h
  · next a =>
    split at h
    · cases h
    · next b =>
      split at h
      · cases h
      · next c => exact ⟨by simpa using a, b, by simpa using c⟩
theorem rc_bit {P : pT} (hn : pn P ≤ 30) (h : (lfM P).1 = 0) {k : Nat} : (rcF P k = true ↔ ∃ t, Rc P k t) ∧ (∀ t, Rc P k t → hhF P k = t) := by
  obtain ⟨h0, hz, -⟩ := lf_00 hn h
  have h2 := mz_ok hn h0
  constructor
  · unfold rcF
    simp only [Bool.and_eq_true, decide_eq_true_eq]
    constructor
    · rintro ⟨hk, q⟩
      obtain ⟨t, ht⟩ := (nz_bit (h2.1.1 k)).mp q
      exact ⟨t, h2.1.2.1 k t ⟨hk, ht⟩⟩
    · rintro ⟨t, ht⟩
      have := (h2.2 k t ht).1
      exact ⟨this.1, (nz_bit (h2.1.1 k)).mpr ⟨t, this.2⟩⟩
  · intro t ht
    have hb := (h2.2 k t ht).1
    exact hi_u (h2.1.1 k) (hf_0 (hz k hb.1)).2.1 hb.2
/-- where there is no FAULT of sizes, they hang together -/
theorem pH_ok {P : pT} (hn : pn P ≤ 30) (h : (lfM P).1 = 0) : pH P (hhF P) (rcF P) := by
  obtain ⟨h0, hz, -⟩ := lf_00 hn h
  have h2 := mz_ok hn h0
  have r0 := (Rc_cl P).1 h0
  refine ⟨(rc_bit hn h).1.mpr ⟨0, r0⟩, (rc_bit hn h).2 0 r0, fun k hk => ?_⟩
  obtain ⟨t, ht⟩ := (rc_bit hn h).1.mp hk
  have eh := (rc_bit hn h).2 t ht
  obtain ⟨hb, f1, f2, f3, f4⟩ := h2.2 k t ht
  have hzk := hf_0 (hz k hb.1)
  have hno : ¬ outP P k t := fun q => by have := f3 q; rw [hzk.1] at this; cases this
  have hfi : fiA (opA P k) t = true := by
    cases e : fiA (opA P k) t
    · have := f4 e; rw [hzk.2.2] at this; cases this
    · rfl
  have h6 := fi_6 hfi
  have hcl := (Rc_cl P).2 k t hb.1 (Rc_lt ht).2 ht
  have hlo : loA P k = false := by
    cases e : loA P k
    · rfl
    · exact absurd (Or.inr ⟨hfi, e⟩) hno
  unfold loA at hlo
  simp at hlo
  rw [eh]
  refine ⟨hb.1, h6.1, h6.2, fun q => ?_, fun q => ?_, fun j q => ?_⟩
  · have hl : k + 1 < pn P := by have := hlo.1 q; omega
    have := (hcl.2 hfi).1 q hl
    exact ⟨(rc_bit hn h).1.mpr ⟨_, this⟩, (rc_bit hn h).2 _ this⟩
  · have hl : nuN P k < pn P := by have := hlo.2 q; omega
    have := (hcl.2 hfi).2 q hl
    exact ⟨(rc_bit hn h).1.mpr ⟨_, this⟩, (rc_bit hn h).2 _ this⟩
  · have hl : qa P j < pn P := Classical.byContradiction (fun r => hno (Or.inl ⟨j, q, r⟩))
    have := hcl.1 j q hl
    exact ⟨(rc_bit hn h).1.mpr ⟨_, this⟩, (rc_bit hn h).2 _ this⟩
/-- all that is reached lies in whatever holds at 0 and goes along the ways -/
theorem rc_in {P : pT} (hn : pn P ≤ 30) (h : (lfM P).1 = 0) {X : Nat → Prop} (h0 : X 0) (hX : ∀ k, rcF P k = true → X k → (goA P k = true → X (k + 1)) ∧ (juA P k = true → X (nuN P k)) ∧ (∀ j, cvA P j k = true → X (qa P j))) : ∀ k, rcF P k = true → X k := by
  have hH := pH_ok hn h
  intro k hk
  obtain ⟨t, ht⟩ := (rc_bit hn h).1.mp hk
  refine (ht (fun i _ => rcF P i = true ∧ X i) ⟨fun _ => ⟨hH.1, h0⟩, fun i s hi _ q => ?_⟩).2
  have e := hX i q.1 q.2
  have f := hH.2.2 i q.1
  exact ⟨fun j a _ => ⟨(f.2.2.2.2.2 j a).1, e.2.2 j a⟩, fun _ => ⟨fun a _ => ⟨(f.2.2.2.1 a).1, e.1 a⟩, fun a _ => ⟨(f.2.2.2.2.1 a).1, e.2.1 a⟩⟩⟩

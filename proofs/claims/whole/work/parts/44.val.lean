/-! what may lie in the places: KINDS that are, a LONG with its HALF -/
def vK (P : pT) (T : tT) (k : Nat) : Prop := plK T k = true ∨ k = 2 ∨ k = 3 ∨ (200 ≤ k ∧ opA P (k - 200) = 12)
def vC (P : pT) (T : tT) (c : cS) : Prop := ∀ j, j < 8 + c.1 → vK P T (c.2 j)
def prC (c : cS) : Prop := (∀ j, j + 1 < 8 + c.1 → j ≠ 7 → (c.2 j = 2 ↔ c.2 (j + 1) = 3)) ∧ c.2 7 ≠ 2 ∧ c.2 0 ≠ 3 ∧ (0 < c.1 → c.2 8 ≠ 3 ∧ c.2 (7 + c.1) ≠ 2)
def pTy (P : pT) (T : tT) : Prop := (∀ k, (opA P k = 12 ∨ opA P k = 14 ∨ opA P k = 15) → nuA P k = nI (nuN P k) ∧ nuN P k < tc T) ∧ (∀ j, j < qn P → qk P j < tc T)
def gC (P : pT) (T : tT) (c : cS) : Prop := c.1 ≤ 6 ∧ vC P T c ∧ prC c
theorem vK_0 {P : pT} {T : tT} : vK P T 0 := Or.inl (by simp [plK])
theorem vK_1 {P : pT} {T : tT} : vK P T 1 := Or.inl (by simp [plK])
theorem vK_4 {P : pT} {T : tT} : vK P T 4 := Or.inl (by simp [plK, rfK])
theorem vK_2 {P : pT} {T : tT} : vK P T 2 := Or.inr (Or.inl rfl)
theorem vK_3 {P : pT} {T : tT} : vK P T 3 := Or.inr (Or.inr (Or.inl rfl))
theorem vK_t {P : pT} {T : tT} {t : Nat} (h : t < tc T) : vK P T (100 + t) := Or.inl (by simp [plK, rfK, thK, h])
theorem vC_dr {P : pT} {T : tT} {c : cS} (h : vC P T c) (m : Nat) : vC P T (drA c m) := fun j hj => h j (by unfold drA at hj; simp at hj; omega)
theorem vC_ps {P : pT} {T : tT} {c : cS} {q : Nat} (h : vC P T c) (hq : vK P T q) : vC P T (psA c q) := by
  unfold psA
  split
  · intro j hj
    simp at hj
    simp only [va_up]
    split
    · exact hq
    · exact h j (by omega)
  · exact h
theorem vC_pt {P : pT} {T : tT} {c : cS} {p q : Nat} (h : vC P T c) (hq : vK P T q) : vC P T (ptA c p q) := by
  unfold ptA
  split
  · intro j hj
    simp at hj
    simp only [va_up]
    split
    · exact hq
    · exact h j (by omega)
  · exact h
theorem vC_bk {P : pT} {T : tT} {c : cS} {p : Nat} (h : vC P T c) : vC P T (bkA c p) := by
  unfold bkA
  split
  · intro j hj
    simp at hj
    simp only [va_up]
    split
    · exact vK_0
    · exact h j (by omega)
  · split
    · intro j hj
      simp at hj
      simp only [va_up]
      split
      · exact vK_0
      · exact h j (by omega)
    · exact h
theorem vC_rp {P : pT} {T : tT} {c : cS} {q r : Nat} (h : vC P T c) (hr : vK P T r) : vC P T (rpA c q r) := by
  intro j hj
  simp only [rpA] at hj ⊢
  split
  · exact hr
  · exact h j hj
theorem vK_kA {P : pT} {T : tT} {c : cS} (h : vC P T c) (p : Nat) : vK P T (kA c p) := by
  unfold kA; split
  · exact h p (by assumption)
  · exact vK_0
theorem vK_tp {P : pT} {T : tT} {c : cS} (h : vC P T c) (p : Nat) : vK P T (tpA c p) := by
  unfold tpA; split
  · exact h _ (by omega)
  · exact vK_0
theorem prC_ps {c : cS} {q : Nat} (h : prC c) (h2 : q ≠ 2) (h3 : q ≠ 3) : prC (psA c q) := by
  unfold psA
  split
  · obtain ⟨h1, h7, h0, h8⟩ := h
    refine ⟨fun j hj hn => ?_, ?_, ?_, ?_⟩ <;> simp only [va_up] at *
    · have := h1 j
      clear h1
      grind
    · grind
    · grind
    · grind
  · exact h
theorem prC_pl {c : cS} (h : prC c) (h4 : c.1 ≤ 4) : prC (psA (psA c 2) 3) := by
  have e : psA (psA c 2) 3 = (c.1 + 2, va_up (va_up c.2 (8 + c.1) 2) (8 + (c.1 + 1)) 3) := by
    unfold psA
    rw [if_pos (show c.1 < 6 by omega)]
    exact if_pos (show c.1 + 1 < 6 by omega)
  rw [e]
  obtain ⟨h1, h7, h0, h8⟩ := h
  refine ⟨fun j hj hn => ?_, ?_, ?_, ?_⟩ <;> simp only [va_up] at *
  · have := h1 j
    clear h1
    grind
  · grind
  · grind
  · grind
theorem prC_dr {c : cS} {m : Nat} (h : prC c) (hm : m = 0 ∨ (m ≤ c.1 ∧ c.2 (8 + c.1 - m) ≠ 3)) : prC (drA c m) := by
  obtain ⟨h1, h7, h0, h8⟩ := h
  refine ⟨fun j hj hn => ?_, ?_, ?_, ?_⟩ <;> simp only [drA] at *
  · exact h1 j (by omega) hn
  · exact h7
  · exact h0
  · intro hc
    refine ⟨(h8 (by omega)).1, ?_⟩
    rcases hm with rfl | ⟨hm1, hm2⟩
    · exact (h8 (by omega)).2
    · by_cases e : m = 0
      · subst e; exact (h8 (by omega)).2
      · intro q
        have := (h1 (7 + (c.1 - m)) (by omega) (by omega)).mp q
        rw [show 7 + (c.1 - m) + 1 = 8 + c.1 - m by omega] at this
        exact hm2 this
theorem prC_rp {c : cS} {q r : Nat} (h : prC c) (h1 : q ≠ 2 ∧ q ≠ 3) (h2 : r ≠ 2 ∧ r ≠ 3) : prC (rpA c q r) := by
  obtain ⟨k1, h7, h0, h8⟩ := h
  refine ⟨fun j hj hn => ?_, ?_, ?_, ?_⟩ <;> simp only [rpA] at *
  · have := k1 j hj hn
    clear k1
    grind
  · grind
  · grind
  · grind
theorem prC_so {c : cS} {p q : Nat} (h : prC c) (hp : p < 8) (h2 : q ≠ 2) (h3 : q ≠ 3) : prC (soA c p q) := by
  obtain ⟨h1, h7, h0, h8⟩ := h
  have a1 := h1 p
  have a2 := h1 (p - 1)
  have a3 := h1 (p + 1)
  have a4 := h1 (p - 2)
  unfold soA ptA bkA kA
  rw [if_pos (show p < 8 + c.1 by omega)]
  split
  · rw [if_pos (by simp; omega)]
    refine ⟨fun j hj hn => ?_, ?_, ?_, ?_⟩ <;> simp only [va_up] at *
    · have := h1 j hj hn
      clear h1
      grind
    · grind
    · grind
    · grind
  · split
    · rw [if_pos (by simp; omega)]
      refine ⟨fun j hj hn => ?_, ?_, ?_, ?_⟩ <;> simp only [va_up] at *
      · have := h1 j hj hn
        clear h1
        grind
      · grind
      · grind
      · grind
    · rw [if_pos (by omega)]
      refine ⟨fun j hj hn => ?_, ?_, ?_, ?_⟩ <;> simp only [va_up] at *
      · have := h1 j hj hn
        clear h1
        grind
      · grind
      · grind
      · grind
theorem bkA_1 (c : cS) (p : Nat) : (bkA c p).1 = c.1 := by unfold bkA; split; rfl; split <;> rfl
theorem ptA_1 (c : cS) (p q : Nat) : (ptA c p q).1 = c.1 := by unfold ptA; split <;> rfl
theorem kA_8 {c : cS} {p : Nat} (h : p < 8) : kA c p = c.2 p := if_pos (by omega)
theorem ptA_8 {c : cS} {p q : Nat} (h : p < 8) (j : Nat) : (ptA c p q).2 j = if j = p then q else c.2 j := by
  unfold ptA; rw [if_pos (by omega)]; rfl
theorem bkA_8 {c : cS} {p : Nat} (h : p < 8) (j : Nat) : (bkA c p).2 j = if (c.2 p = 2 ∧ p + 1 < 8 ∧ j = p + 1) ∨ (c.2 p = 3 ∧ 0 < p ∧ j = p - 1) then 0 else c.2 j := by
  unfold bkA; rw [kA_8 h]
  by_cases e1 : c.2 p = 2 ∧ p + 1 < 8
  · rw [if_pos e1]
    show (if j = p + 1 then 0 else c.2 j) = _
    by_cases e2 : j = p + 1
    · rw [if_pos e2, if_pos (Or.inl ⟨e1.1, e1.2, e2⟩)]
    · rw [if_neg e2, if_neg (by omega)]
  · rw [if_neg e1]
    by_cases e3 : c.2 p = 3 ∧ 0 < p
    · rw [if_pos e3]
      show (if j = p - 1 then 0 else c.2 j) = _
      by_cases e2 : j = p - 1
      · rw [if_pos e2, if_pos (Or.inr ⟨e3.1, e3.2, e2⟩)]
      · rw [if_neg e2, if_neg (by omega)]
    · rw [if_neg e3, if_neg (by omega)]
theorem soA_1 (c : cS) (p q : Nat) : (soA c p q).1 = c.1 := by unfold soA; rw [ptA_1, bkA_1]
theorem slA_1 (c : cS) (p : Nat) : (slA c p).1 = c.1 := by unfold slA; rw [ptA_1, ptA_1, bkA_1, bkA_1]
theorem soA_8 {c : cS} {p q : Nat} (h : p < 8) (j : Nat) : (soA c p q).2 j = if j = p then q else if (c.2 p = 2 ∧ p + 1 < 8 ∧ j = p + 1) ∨ (c.2 p = 3 ∧ 0 < p ∧ j = p - 1) then 0 else c.2 j := by
  unfold soA; rw [ptA_8 h, bkA_8 h]
theorem slA_8 {c : cS} {p : Nat} (h : p < 7) (j : Nat) : (slA c p).2 j = if j = p then 2 else if j = p + 1 then 3 else (soA (soA c p 0) (p + 1) 0).2 j := by
  unfold slA
  rw [ptA_8 (by omega), ptA_8 (by omega), soA_8 (by omega), bkA_8 (by omega), bkA_8 (by omega), bkA_8 (by omega), soA_8 (by omega), soA_8 (by omega)]
  by_cases e1 : j = p
  · grind
  · by_cases e2 : j = p + 1
    · grind
    · simp only [e1, e2, if_false]
      grind
/-- what an OP makes of the places is as it must be -/
theorem prC_sl {c : cS} {p : Nat} (h : prC c) (hp : p < 7) : prC (slA c p) := by
  have hs := prC_so (q := 0) (prC_so (q := 0) h (show p < 8 by omega) (by decide) (by decide)) (show p + 1 < 8 by omega) (by decide) (by decide)
  have z1 : (soA (soA c p 0) (p + 1) 0).2 p = 0 := by
    rw [soA_8 (by omega), soA_8 (by omega), soA_8 (by omega)]; grind
  have z2 : (soA (soA c p 0) (p + 1) 0).2 (p + 1) = 0 := by rw [soA_8 (by omega), if_pos rfl]
  obtain ⟨h1, h7, h0, h8⟩ := hs
  rw [soA_1, soA_1] at h1 h8
  refine ⟨fun j hj hn => ?_, ?_, ?_, ?_⟩
  · rw [slA_1] at hj
    have := h1 j hj hn
    have a1 := h1 p (by omega) (by omega)
    have a2 := h1 (p + 1) 
    have a3 := h1 (p - 1)
    clear h1
    rw [slA_8 hp, slA_8 hp]
    grind
  · rw [slA_8 hp]; grind
  · rw [slA_8 hp]; grind
  · rw [slA_1]
    intro hc
    rw [slA_8 hp, slA_8 hp]
    grind
theorem vK_200 {P : pT} {T : tT} (hO : tOk T) {k : Nat} (h : vK P T k) (hk : 200 ≤ k) : opA P (k - 200) = 12 := by
  have h8 := hO.2.1
  rcases h with h | h | h | h
  · simp [plK, rfK, thK] at h; omega
  · omega
  · omega
  · exact h.2
theorem gC_13 {P : pT} {T : tT} (hY : pTy P T) (hO : tOk T) {k : Nat} {c : cS} (h : gC P T c) (ho : opA P k = 13) (hs : suA T (opA P k) (nuN P k) c = true) : nuA P (tpA c 0 - 200) = nI (tyA P c) ∧ tyA P c < tc T ∧ 200 ≤ tpA c 0 ∧ tpA c 0 < 230 := by
  rw [ho] at hs
  have hb : 200 ≤ tpA c 0 ∧ tpA c 0 < 230 := by simpa [suA, bgK] using hs
  have := hY.1 (tpA c 0 - 200) (Or.inl (vK_200 hO (vK_tp h.2.1 0) hb.1))
  exact ⟨this.1, this.2, hb⟩
theorem tp_c {c : cS} {d : Nat} (h : d < c.1) : tpA c d = c.2 (7 + c.1 - d) := if_pos h
theorem gC_ps {P : pT} {T : tT} {c : cS} {q : Nat} (h : gC P T c) (hq : vK P T q) (h2 : q ≠ 2) (h3 : q ≠ 3) : gC P T (psA c q) := by
  refine ⟨?_, vC_ps h.2.1 hq, prC_ps h.2.2 h2 h3⟩
  have := h.1
  unfold psA; split
  · show c.1 + 1 ≤ 6; omega
  · exact h.1
theorem psA_1 {c : cS} {q : Nat} (h : c.1 < 6) : (psA c q).1 = c.1 + 1 := by unfold psA; rw [if_pos h]
theorem gC_pl {P : pT} {T : tT} {c : cS} (h : gC P T c) (h4 : c.1 ≤ 4) : gC P T (psA (psA c 2) 3) := by
  refine ⟨?_, vC_ps (vC_ps h.2.1 vK_2) vK_3, prC_pl h.2.2 h4⟩
  rw [psA_1 (by rw [psA_1 (by omega)]; omega), psA_1 (by omega)]; omega
theorem gC_dr {P : pT} {T : tT} {c : cS} {m : Nat} (h : gC P T c) (hm : m = 0 ∨ (m ≤ c.1 ∧ tpA c (m - 1) ≠ 3)) : gC P T (drA c m) := by
  refine ⟨?_, vC_dr h.2.1 m, prC_dr h.2.2 ?_⟩
  · have := h.1; show c.1 - m ≤ 6; omega
  · by_cases e : m = 0
    · exact Or.inl e
    · rcases hm with hm | ⟨hm1, hm2⟩
      · exact Or.inl hm
      · refine Or.inr ⟨hm1, ?_⟩
        rw [tp_c (by omega)] at hm2
        rwa [show 7 + c.1 - (m - 1) = 8 + c.1 - m by omega] at hm2
theorem gC_so {P : pT} {T : tT} {c : cS} {p q : Nat} (h : gC P T c) (hp : p < 8) (hq : vK P T q) (h2 : q ≠ 2) (h3 : q ≠ 3) : gC P T (soA c p q) :=
  ⟨by rw [soA_1]; exact h.1, vC_pt (vC_bk h.2.1) hq, prC_so h.2.2 hp h2 h3⟩
theorem gC_sl {P : pT} {T : tT} {c : cS} {p : Nat} (h : gC P T c) (hp : p < 7) : gC P T (slA c p) :=
  ⟨by rw [slA_1]; exact h.1, vC_pt (vC_pt (vC_bk (vC_bk h.2.1)) vK_2) vK_3, prC_sl h.2.2 hp⟩
theorem gC_rp {P : pT} {T : tT} {c : cS} {q r : Nat} (h : gC P T c) (h1 : q ≠ 2 ∧ q ≠ 3) (hr : vK P T r) (h2 : r ≠ 2 ∧ r ≠ 3) : gC P T (rpA c q r) :=
  ⟨h.1, vC_rp h.2.1 hr, prC_rp h.2.2 h1 h2⟩
theorem whK_e {k : Nat} (h : whK k = true) : k ≠ 0 ∧ k ≠ 2 ∧ k ≠ 3 := by simpa [whK, and_assoc] using h
theorem loK_e {x y : Nat} (h : loK x y = true) : x = 2 ∧ y = 3 := by simpa [loK] using h
theorem rfK_e {T : tT} (hO : tOk T) {k : Nat} (h : rfK T k = true) : k = 4 ∨ (100 ≤ k ∧ k < 108) := by
  have := hO.2.1
  simp [rfK, thK] at h; omega
theorem wk0 (q k t : Nat) (c : cS) : wkA 0 q k t c = psA (drA c 0) 1 := by unfold wkA; simp [tkA]
theorem su0 (T : tT) (q : Nat) (c : cS) : suA T 0 q c = true := by unfold suA; simp
theorem wk1 (q k t : Nat) (c : cS) : wkA 1 q k t c = psA (psA (drA c 0) 2) 3 := by unfold wkA; simp [tkA]
theorem su1 (T : tT) (q : Nat) (c : cS) : suA T 1 q c = true := by unfold suA; simp
theorem wk2 (q k t : Nat) (c : cS) : wkA 2 q k t c = psA (drA c 0) 4 := by unfold wkA; simp [tkA]
theorem su2 (T : tT) (q : Nat) (c : cS) : suA T 2 q c = true := by unfold suA; simp
theorem wk3 (q k t : Nat) (c : cS) : wkA 3 q k t c = psA (drA c 0) (kA (drA c 0) q) := by unfold wkA; simp [tkA]
theorem su3 (T : tT) (q : Nat) (c : cS) : suA T 3 q c = whK (kA c q) := by unfold suA; simp
theorem wk4 (q k t : Nat) (c : cS) : wkA 4 q k t c = psA (psA (drA c 0) 2) 3 := by unfold wkA; simp [tkA]
theorem su4 (T : tT) (q : Nat) (c : cS) : suA T 4 q c = loK (kA c q) (kA c (q + 1)) := by unfold suA; simp
theorem wk5 (q k t : Nat) (c : cS) : wkA 5 q k t c = soA (drA c 1) q (tpA c 0) := by unfold wkA; simp [tkA]
theorem su5 (T : tT) (q : Nat) (c : cS) : suA T 5 q c = whK (tpA c 0) := by unfold suA; simp
theorem wk6 (q k t : Nat) (c : cS) : wkA 6 q k t c = slA (drA c 2) q := by unfold wkA; simp [tkA]
theorem su6 (T : tT) (q : Nat) (c : cS) : suA T 6 q c = loK (tpA c 1) (tpA c 0) := by unfold suA; simp
theorem wk7 (q k t : Nat) (c : cS) : wkA 7 q k t c = drA c 1 := by unfold wkA; simp [tkA]
theorem su7 (T : tT) (q : Nat) (c : cS) : suA T 7 q c = whK (tpA c 0) := by unfold suA; simp
theorem wk8 (q k t : Nat) (c : cS) : wkA 8 q k t c = drA c 2 := by unfold wkA; simp [tkA]
theorem su8 (T : tT) (q : Nat) (c : cS) : suA T 8 q c = (loK (tpA c 1) (tpA c 0) || (whK (tpA c 1) && whK (tpA c 0))) := by unfold suA; simp
theorem wk9 (q k t : Nat) (c : cS) : wkA 9 q k t c = psA (psA (drA c 1) (tpA c 0)) (tpA c 0) := by unfold wkA; simp [tkA]
theorem su9 (T : tT) (q : Nat) (c : cS) : suA T 9 q c = whK (tpA c 0) := by unfold suA; simp
theorem wk10 (q k t : Nat) (c : cS) : wkA 10 q k t c = psA (drA c 2) 1 := by unfold wkA; simp [tkA]
theorem su10 (T : tT) (q : Nat) (c : cS) : suA T 10 q c = (decide (tpA c 1 = 1) && decide (tpA c 0 = 1)) := by unfold suA; simp
theorem wk11 (q k t : Nat) (c : cS) : wkA 11 q k t c = psA (psA (drA c 4) 2) 3 := by unfold wkA; simp [tkA]
theorem su11 (T : tT) (q : Nat) (c : cS) : suA T 11 q c = (loK (tpA c 3) (tpA c 2) && loK (tpA c 1) (tpA c 0)) := by unfold suA; simp
theorem wk12 (q k t : Nat) (c : cS) : wkA 12 q k t c = psA (rpA (drA c 0) (200 + k) 0) (200 + k) := by unfold wkA; simp [tkA]
theorem su12 (T : tT) (q : Nat) (c : cS) : suA T 12 q c = true := by unfold suA; simp
theorem wk13 (q k t : Nat) (c : cS) : wkA 13 q k t c = rpA (drA c 1) (tpA c 0) (100 + t) := by unfold wkA; simp [tkA]
theorem su13 (T : tT) (q : Nat) (c : cS) : suA T 13 q c = bgK (tpA c 0) := by unfold suA; simp
theorem wk14 (q k t : Nat) (c : cS) : wkA 14 q k t c = psA (drA c 1) (100 + q) := by unfold wkA; simp [tkA]
theorem su14 (T : tT) (q : Nat) (c : cS) : suA T 14 q c = rfK T (tpA c 0) := by unfold suA; simp
theorem wk15 (q k t : Nat) (c : cS) : wkA 15 q k t c = drA c 1 := by unfold wkA; simp [tkA]
theorem su15 (T : tT) (q : Nat) (c : cS) : suA T 15 q c = (rfK T (tpA c 0) && gfA T (tpA c 0) (100 + q)) := by unfold suA; simp
theorem wk16 (q k t : Nat) (c : cS) : wkA 16 q k t c = drA c 1 := by unfold wkA; simp [tkA]
theorem su16 (T : tT) (q : Nat) (c : cS) : suA T 16 q c = decide (tpA c 0 = 1) := by unfold suA; simp
theorem wk17 (q k t : Nat) (c : cS) : wkA 17 q k t c = drA c 2 := by unfold wkA; simp [tkA]
theorem su17 (T : tT) (q : Nat) (c : cS) : suA T 17 q c = (rfK T (tpA c 1) && rfK T (tpA c 0)) := by unfold suA; simp
theorem wk18 (q k t : Nat) (c : cS) : wkA 18 q k t c = drA c 0 := by unfold wkA; simp [tkA]
theorem su18 (T : tT) (q : Nat) (c : cS) : suA T 18 q c = true := by unfold suA; simp
theorem wk19 (q k t : Nat) (c : cS) : wkA 19 q k t c = drA c 0 := by unfold wkA; simp [tkA]
theorem su19 (T : tT) (q : Nat) (c : cS) : suA T 19 q c = true := by unfold suA; simp
theorem wk20 (q k t : Nat) (c : cS) : wkA 20 q k t c = drA c 1 := by unfold wkA; simp [tkA]
theorem su20 (T : tT) (q : Nat) (c : cS) : suA T 20 q c = rfK T (tpA c 0) := by unfold suA; simp
theorem gC_wk {P : pT} {T : tT} (hN : pNum P) (hY : pTy P T) (hO : tOk T) {k : Nat} (hp20 : opA P k ≤ 20) {c : cS} (h : gC P T c) (hs : suA T (opA P k) (nuN P k) c = true) (h1 : tkA (opA P k) ≤ c.1) (h2 : c.1 - tkA (opA P k) + gvA (opA P k) ≤ 6) : gC P T (wkA (opA P k) (nuN P k) k (tyA P c) c) := by
  have hq8 := hN.1 k
  have hq7 := hN.2.1 k
  have hqt := hY.1 k
  have h13 := fun ho => gC_13 hY hO h ho hs
  have h12 : opA P k = 12 → vK P T (200 + k) := fun e => Or.inr (Or.inr (Or.inr ⟨by omega, by rw [show 200 + k - 200 = k by omega]; exact e⟩))
  generalize opA P k = o at *
  generalize nuN P k = q at *
  generalize tyA P c = t at *
  have hc : o = 0 ∨ o = 1 ∨ o = 2 ∨ o = 3 ∨ o = 4 ∨ o = 5 ∨ o = 6 ∨ o = 7 ∨ o = 8 ∨ o = 9 ∨ o = 10 ∨ o = 11 ∨ o = 12 ∨ o = 13 ∨ o = 14 ∨ o = 15 ∨ o = 16 ∨ o = 17 ∨ o = 18 ∨ o = 19 ∨ o = 20 := by omega
  have d0 : gC P T (drA c 0) := gC_dr h (Or.inl rfl)
  have v0 := vK_tp h.2.1 0
  rcases hc with rfl | rfl | rfl | rfl | rfl | rfl | rfl | rfl | rfl | rfl | rfl | rfl | rfl | rfl | rfl | rfl | rfl | rfl | rfl | rfl | rfl
  · rw [wk0]
    rw [su0] at hs
    exact gC_ps d0 vK_1 (by decide) (by decide)
  · rw [wk1]
    rw [su1] at hs
    exact gC_pl d0 (by simp [tkA, gvA] at h2; show c.1 - 0 ≤ 4; omega)
  · rw [wk2]
    rw [su2] at hs
    exact gC_ps d0 vK_4 (by decide) (by decide)
  · rw [wk3]
    rw [su3] at hs
    have := whK_e hs
    exact gC_ps d0 (vK_kA (vC_dr h.2.1 0) q) this.2.1 this.2.2
  · rw [wk4]
    rw [su4] at hs
    exact gC_pl d0 (by simp [tkA, gvA] at h2; show c.1 - 0 ≤ 4; omega)
  · rw [wk5]
    rw [su5] at hs
    have := whK_e hs
    exact gC_so (gC_dr h (Or.inr ⟨h1, this.2.2⟩)) (hq8 (by decide)).2 v0 this.2.1 this.2.2
  · rw [wk6]
    rw [su6] at hs
    have := loK_e hs
    exact gC_sl (gC_dr (m := 2) h (Or.inr ⟨h1, by show tpA c 1 ≠ 3; omega⟩)) (hq7 (by decide))
  · rw [wk7]
    rw [su7] at hs
    have := whK_e hs
    exact gC_dr (m := 1) h (Or.inr ⟨h1, this.2.2⟩)
  · rw [wk8]
    rw [su8] at hs
    have hs' := hs
    refine gC_dr (m := 2) h (Or.inr ⟨h1, ?_⟩)
    show tpA c 1 ≠ 3
    simp at hs'
    rcases hs' with e | e
    · have := loK_e e; omega
    · have := whK_e e.1; omega
  · rw [wk9]
    rw [su9] at hs
    have := whK_e hs
    exact gC_ps (gC_ps (gC_dr (m := 1) h (Or.inr ⟨h1, this.2.2⟩)) v0 this.2.1 this.2.2) v0 this.2.1 this.2.2
  · rw [wk10]
    rw [su10] at hs
    have hs' := hs
    simp at hs'
    exact gC_ps (gC_dr (m := 2) h (Or.inr ⟨h1, by show tpA c 1 ≠ 3; omega⟩)) vK_1 (by decide) (by decide)
  · rw [wk11]
    rw [su11] at hs
    have hs' := hs
    simp at hs'
    have := loK_e hs'.1
    have hc6 := h.1
    have h1' : 4 ≤ c.1 := h1
    exact gC_pl (gC_dr (m := 4) h (Or.inr ⟨h1, by show tpA c 3 ≠ 3; omega⟩)) (by show c.1 - 4 ≤ 4; omega)
  · rw [wk12]
    rw [su12] at hs
    exact gC_ps (gC_rp d0 (by omega) vK_0 (by omega)) (h12 rfl) (by omega) (by omega)
  · rw [wk13]
    rw [su13] at hs
    have := h13 rfl
    exact gC_rp (gC_dr (m := 1) h (Or.inr ⟨h1, by show tpA c 0 ≠ 3; omega⟩)) (by omega) (vK_t this.2.1) (by omega)
  · rw [wk14]
    rw [su14] at hs
    have := rfK_e hO hs
    exact gC_ps (gC_dr (m := 1) h (Or.inr ⟨h1, by show tpA c 0 ≠ 3; omega⟩)) (vK_t (hqt (by decide)).2) (by omega) (by omega)
  · rw [wk15]
    rw [su15] at hs
    have hs' := hs
    simp at hs'
    have := rfK_e hO hs'.1
    exact gC_dr (m := 1) h (Or.inr ⟨h1, by show tpA c 0 ≠ 3; omega⟩)
  · rw [wk16]
    rw [su16] at hs
    have hs' := hs
    simp at hs'
    exact gC_dr (m := 1) h (Or.inr ⟨h1, by show tpA c 0 ≠ 3; omega⟩)
  · rw [wk17]
    rw [su17] at hs
    have hs' := hs
    simp at hs'
    have := rfK_e hO hs'.1
    exact gC_dr (m := 2) h (Or.inr ⟨h1, by show tpA c 1 ≠ 3; omega⟩)
  · rw [wk18]
    rw [su18] at hs
    exact d0
  · rw [wk19]
    rw [su19] at hs
    exact d0
  · rw [wk20]
    rw [su20] at hs
    have := rfK_e hO hs
    exact gC_dr (m := 1) h (Or.inr ⟨h1, by show tpA c 0 ≠ 3; omega⟩)

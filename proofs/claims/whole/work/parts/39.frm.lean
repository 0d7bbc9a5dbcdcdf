/-! the FRAMES: their instructions, each instruction's number of a frame, what is meant, the frames as given, how many -/
abbrev fS : Type := (Nat → Nat) × (Nat → Int32) × (Nat → Bool) × (Nat → cS) × Nat
def cFrm (F : fS) (σ : mc_G) : Prop := (∀ i, i < 30 → σ 87 i = nI (F.1 i) ∧ σ 88 i = F.2.1 i ∧ σ 89 i = bI (F.2.2.1 i) ∧ cCel (94 + 2 * i) (F.2.2.2.1 i) σ) ∧ σ 86 6 = nI F.2.2.2.2 ∧ F.2.2.2.2 ≤ 30
def offF (σ σ' : mc_G) : Prop := ∀ b, (b < 86 ∨ 89 < b) → (b < 94 ∨ 153 < b) → σ' b = σ b
theorem offF.rf {σ : mc_G} : offF σ σ := fun _ _ _ => rfl
theorem offF.tr {σ σ1 σ2 : mc_G} (h : offF σ σ1) (k : offF σ1 σ2) : offF σ σ2 := fun b h1 h2 => (k b h1 h2).trans (h b h1 h2)
theorem cCode.oF {P : pT} {σ σ' : mc_G} (h : cCode P σ) (o : offF σ σ') : cCode P σ' := h.to (fun b h1 h2 => o b (by omega) (by omega))
theorem cTyp.oF {T : tT} {σ σ' : mc_G} (h : cTyp T σ) (o : offF σ σ') : cTyp T σ' := h.to (fun b h1 h2 => o b (by omega) (by omega))
theorem cSta.oF {σ σ' : mc_G} (h : cSta σ) (o : offF σ σ') : cSta σ' := fun k hk => by rw [o 1000 (by decide) (by decide), o 1001 (by decide) (by decide)]; exact h k hk
theorem cSts.oF {S : sS} {σ σ' : mc_G} (h : cSts S σ) (o : offF σ σ') : cSts S σ' :=
  ⟨fun i hi => ⟨(h.1 i hi).1.to (o _ (by omega) (by omega)) (o _ (by omega) (by omega)), by rw [o 82 (by decide) (by decide)]; exact (h.1 i hi).2.1, by rw [o 83 (by decide) (by decide)]; exact (h.1 i hi).2.2⟩, by rw [o 17 (by decide) (by decide)]; exact h.2.1, h.2.2.to (o _ (by decide) (by decide)) (o _ (by decide) (by decide))⟩
theorem cFrm.ins {F : fS} {σ : mc_G} {x v : Int32} {k q : Nat} (h : cFrm F σ) (hx : x = nI k) (hk : k < 30) (hv : v = nI q) : cFrm (va_up F.1 k q, F.2) (mc_up σ 87 x.toNatClampNeg v) ∧ offF σ (mc_up σ 87 x.toNatClampNeg v) := by
  rw [clE hx (by omega)]
  refine ⟨⟨fun i hi => ⟨?_, by rw [mc_upn _ _ _ (show (88 : Nat) ≠ 87 by decide)]; exact (h.1 i hi).2.1, by rw [mc_upn _ _ _ (show (89 : Nat) ≠ 87 by decide)]; exact (h.1 i hi).2.2.1, (h.1 i hi).2.2.2.to (mc_upn _ _ _ (by omega)) (mc_upn _ _ _ (by omega))⟩, by rw [mc_upn _ _ _ (show (86 : Nat) ≠ 87 by decide)]; exact h.2.1, h.2.2⟩, fun b h1 h2 => mc_upn _ _ _ (by omega)⟩
  rw [mc_upa]
  by_cases e : i = k
  · simp [e, va_up, hv]
  · simpa [e, va_up] using (h.1 i hi).1
theorem cFrm.num {F : fS} {σ : mc_G} {x v q : Int32} {k : Nat} (h : cFrm F σ) (hx : x = nI k) (hk : k < 30) (hv : v = q) : cFrm (F.1, va_up F.2.1 k q, F.2.2) (mc_up σ 88 x.toNatClampNeg v) ∧ offF σ (mc_up σ 88 x.toNatClampNeg v) := by
  rw [clE hx (by omega)]
  refine ⟨⟨fun i hi => ⟨by rw [mc_upn _ _ _ (show (87 : Nat) ≠ 88 by decide)]; exact (h.1 i hi).1, ?_, by rw [mc_upn _ _ _ (show (89 : Nat) ≠ 88 by decide)]; exact (h.1 i hi).2.2.1, (h.1 i hi).2.2.2.to (mc_upn _ _ _ (by omega)) (mc_upn _ _ _ (by omega))⟩, by rw [mc_upn _ _ _ (show (86 : Nat) ≠ 88 by decide)]; exact h.2.1, h.2.2⟩, fun b h1 h2 => mc_upn _ _ _ (by omega)⟩
  rw [mc_upa]
  by_cases e : i = k
  · simp [e, va_up, hv]
  · simpa [e, va_up] using (h.1 i hi).2.1
theorem cFrm.mea {F : fS} {σ : mc_G} {x v : Int32} {k : Nat} {q : Bool} (h : cFrm F σ) (hx : x = nI k) (hk : k < 30) (hv : v = bI q) : cFrm (F.1, F.2.1, va_up F.2.2.1 k q, F.2.2.2) (mc_up σ 89 x.toNatClampNeg v) ∧ offF σ (mc_up σ 89 x.toNatClampNeg v) := by
  rw [clE hx (by omega)]
  refine ⟨⟨fun i hi => ⟨by rw [mc_upn _ _ _ (show (87 : Nat) ≠ 89 by decide)]; exact (h.1 i hi).1, by rw [mc_upn _ _ _ (show (88 : Nat) ≠ 89 by decide)]; exact (h.1 i hi).2.1, ?_, (h.1 i hi).2.2.2.to (mc_upn _ _ _ (by omega)) (mc_upn _ _ _ (by omega))⟩, by rw [mc_upn _ _ _ (show (86 : Nat) ≠ 89 by decide)]; exact h.2.1, h.2.2⟩, fun b h1 h2 => mc_upn _ _ _ (by omega)⟩
  rw [mc_upa]
  by_cases e : i = k
  · simp [e, va_up, hv]
  · simpa [e, va_up] using (h.1 i hi).2.2.1
theorem cFrm.cnt {F : fS} {σ : mc_G} {v : Int32} {q : Nat} (h : cFrm F σ) (hv : v = nI q) (hq : q ≤ 30) : cFrm (F.1, F.2.1, F.2.2.1, F.2.2.2.1, q) (mc_up σ 86 6 v) ∧ offF σ (mc_up σ 86 6 v) := by
  refine ⟨⟨fun i hi => ⟨by rw [mc_upn _ _ _ (show (87 : Nat) ≠ 86 by decide)]; exact (h.1 i hi).1, by rw [mc_upn _ _ _ (show (88 : Nat) ≠ 86 by decide)]; exact (h.1 i hi).2.1, by rw [mc_upn _ _ _ (show (89 : Nat) ≠ 86 by decide)]; exact (h.1 i hi).2.2.1, (h.1 i hi).2.2.2.to (mc_upn _ _ _ (by omega)) (mc_upn _ _ _ (by omega))⟩, by rw [mc_upa]; simpa using hv, hq⟩, fun b h1 h2 => mc_upn _ _ _ (by omega)⟩
theorem cFrm.giv {F : fS} {σ σ' : mc_G} {k : Nat} {c : cS} (h : cFrm F σ) (hk : k < 30) (ho : offC (94 + 2 * k) σ σ') (hc : cCel (94 + 2 * k) c σ') : cFrm (F.1, F.2.1, F.2.2.1, va_up F.2.2.2.1 k c, F.2.2.2.2) σ' ∧ offF σ σ' := by
  refine ⟨⟨fun i hi => ⟨by rw [ho 87 (by omega) (by omega)]; exact (h.1 i hi).1, by rw [ho 88 (by omega) (by omega)]; exact (h.1 i hi).2.1, by rw [ho 89 (by omega) (by omega)]; exact (h.1 i hi).2.2.1, ?_⟩, by rw [ho 86 (by omega) (by omega)]; exact h.2.1, h.2.2⟩, fun b h1 h2 => ho b (by omega) (by omega)⟩
  by_cases e : i = k
  · subst e; simpa [va_up] using hc
  · simpa [va_up, e] using (h.1 i hi).2.2.2.off ho ⟨by omega, by omega, by omega⟩
theorem cFrm.cg {F F' : fS} {σ : mc_G} (h : cFrm F σ) (e1 : ∀ j, j < 30 → F'.2.1 j = F.2.1 j) (e2 : ∀ j, j < 30 → F'.2.2.1 j = F.2.2.1 j) (e3 : F'.1 = F.1) (e4 : F'.2.2.2 = F.2.2.2) : cFrm F' σ :=
  ⟨fun i hi => by rw [e1 i hi, e2 i hi, e3, e4]; exact h.1 i hi, by rw [e4]; exact h.2⟩
def mkA (n : Nat) (F : fS) (j : Nat) : fS := if j < n then (F.1, F.2.1, va_up F.2.2.1 j true, F.2.2.2) else F
def mhA (P : pT) (k : Nat) (F : fS) (j : Nat) : fS := if cvA P j k = true then mkA (pn P) F (qa P j) else F
def mwA (P : pT) (F : fS) (k : Nat) : fS := foR (mhA P k) (qn P) 0 (if juA P k = true then mkA (pn P) F (nuN P k) else F)
def adA (n : Nat) (S : sS) (F : fS) (k : Nat) : fS := if F.2.2.2.2 < 30 ∧ k < n then (va_up F.1 F.2.2.2.2 k, va_up F.2.1 k (nI F.2.2.2.2), F.2.2.1, va_up F.2.2.2.1 F.2.2.2.2 (S.1 k), F.2.2.2.2 + 1) else F
def g1A (P : pT) (S : sS) (F : fS) (k : Nat) : fS := if (decide (k < pn P) && S.2.1 k) = true then mwA P F k else F
def g2A (P : pT) (S : sS) (F : fS) (k : Nat) : fS := if F.2.2.1 k = true ∧ (decide (k < pn P) && S.2.1 k) = true then adA (pn P) S F k else F
def f0A (F : fS) : fS := (F.1, fun _ => -1, fun _ => false, F.2.2.2)
def gaA (P : pT) (S : sS) (F : fS) : fS := foR (g2A P S) 30 0 ((foR (g1A P S) (pn P) 0 (f0A F)).1, (foR (g1A P S) (pn P) 0 (f0A F)).2.1, (foR (g1A P S) (pn P) 0 (f0A F)).2.2.1, (foR (g1A P S) (pn P) 0 (f0A F)).2.2.2.1, 0)

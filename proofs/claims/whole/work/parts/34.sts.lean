/-! the STATES: rows, those that are reached, those that wait, whether something has changed, the hand -/
abbrev sS : Type := (Nat → cS) × (Nat → Bool) × (Nat → Bool) × Bool × cS
def cSts (S : sS) (σ : mc_G) : Prop := (∀ i, i < 30 → cCel (22 + 2 * i) (S.1 i) σ ∧ σ 82 i = bI (S.2.1 i) ∧ σ 83 i = bI (S.2.2.1 i)) ∧ σ 17 7 = bI S.2.2.2.1 ∧ cCel 84 S.2.2.2.2 σ
def offT (σ σ' : mc_G) : Prop := ∀ b, b ≠ 17 → (b < 22 ∨ 85 < b) → σ' b = σ b
theorem offT.rf {σ : mc_G} : offT σ σ := fun _ _ _ => rfl
theorem offT.tr {σ σ1 σ2 : mc_G} (h : offT σ σ1) (k : offT σ1 σ2) : offT σ σ2 := fun b h1 h2 => (k b h1 h2).trans (h b h1 h2)
theorem apR {k i : Nat} (hk : k < 30) (hi : i < 30) (h : i ≠ k) : apC (22 + 2 * k) (22 + 2 * i) := ⟨by omega, by omega, by omega⟩
theorem cSts.row {S : sS} {σ σ' : mc_G} {k : Nat} {c : cS} (h : cSts S σ) (hk : k < 30) (ho : offC (22 + 2 * k) σ σ') (hc : cCel (22 + 2 * k) c σ') : cSts (va_up S.1 k c, S.2) σ' ∧ offT σ σ' := by
  refine ⟨⟨fun i hi => ?_, ?_, ?_⟩, fun b h1 h2 => ho b (by omega) (by omega)⟩
  · refine ⟨?_, by rw [ho 82 (by omega) (by omega)]; exact (h.1 i hi).2.1, by rw [ho 83 (by omega) (by omega)]; exact (h.1 i hi).2.2⟩
    by_cases e : i = k
    · subst e; simpa [va_up] using hc
    · simpa [va_up, e] using (h.1 i hi).1.off ho (apR hk hi e)
  · rw [ho 17 (by omega) (by omega)]; exact h.2.1
  · exact h.2.2.off ho ⟨by omega, by omega, by omega⟩
theorem cSts.rch {S : sS} {σ : mc_G} {x v : Int32} {k : Nat} {b : Bool} (h : cSts S σ) (hx : x = nI k) (hk : k < 30) (hv : v = bI b) : cSts (S.1, va_up S.2.1 k b, S.2.2) (mc_up σ 82 x.toNatClampNeg v) ∧ offT σ (mc_up σ 82 x.toNatClampNeg v) := by
  rw [clE hx (by omega)]
  refine ⟨⟨fun i hi => ⟨(h.1 i hi).1.to (mc_upn _ _ _ (by omega)) (mc_upn _ _ _ (by omega)), ?_, by rw [mc_upn _ _ _ (show (83 : Nat) ≠ 82 by decide)]; exact (h.1 i hi).2.2⟩, by rw [mc_upn _ _ _ (show (17 : Nat) ≠ 82 by decide)]; exact h.2.1, h.2.2.to (mc_upn _ _ _ (by decide)) (mc_upn _ _ _ (by decide))⟩, fun b h1 h2 => mc_upn _ _ _ (by omega)⟩
  rw [mc_upa]
  by_cases e : i = k
  · simp [e, va_up, hv]
  · simpa [e, va_up] using (h.1 i hi).2.1
theorem cSts.wai {S : sS} {σ : mc_G} {x v : Int32} {k : Nat} {b : Bool} (h : cSts S σ) (hx : x = nI k) (hk : k < 30) (hv : v = bI b) : cSts (S.1, S.2.1, va_up S.2.2.1 k b, S.2.2.2) (mc_up σ 83 x.toNatClampNeg v) ∧ offT σ (mc_up σ 83 x.toNatClampNeg v) := by
  rw [clE hx (by omega)]
  refine ⟨⟨fun i hi => ⟨(h.1 i hi).1.to (mc_upn _ _ _ (by omega)) (mc_upn _ _ _ (by omega)), by rw [mc_upn _ _ _ (show (82 : Nat) ≠ 83 by decide)]; exact (h.1 i hi).2.1, ?_⟩, by rw [mc_upn _ _ _ (show (17 : Nat) ≠ 83 by decide)]; exact h.2.1, h.2.2.to (mc_upn _ _ _ (by decide)) (mc_upn _ _ _ (by decide))⟩, fun b h1 h2 => mc_upn _ _ _ (by omega)⟩
  rw [mc_upa]
  by_cases e : i = k
  · simp [e, va_up, hv]
  · simpa [e, va_up] using (h.1 i hi).2.2
theorem cSts.chg {S : sS} {σ : mc_G} {v : Int32} {b : Bool} (h : cSts S σ) (hv : v = bI b) : cSts (S.1, S.2.1, S.2.2.1, b, S.2.2.2.2) (mc_up σ 17 7 v) ∧ offT σ (mc_up σ 17 7 v) := by
  refine ⟨⟨fun i hi => ⟨(h.1 i hi).1.to (mc_upn _ _ _ (by omega)) (mc_upn _ _ _ (by omega)), by rw [mc_upn _ _ _ (show (82 : Nat) ≠ 17 by decide)]; exact (h.1 i hi).2.1, by rw [mc_upn _ _ _ (show (83 : Nat) ≠ 17 by decide)]; exact (h.1 i hi).2.2⟩, by rw [mc_upa]; simpa using hv, h.2.2.to (mc_upn _ _ _ (by decide)) (mc_upn _ _ _ (by decide))⟩, fun b h1 h2 => mc_upn _ _ _ (by omega)⟩
theorem cSts.hnd {S : sS} {σ σ' : mc_G} {c : cS} (h : cSts S σ) (ho : offC 84 σ σ') (hc : cCel 84 c σ') : cSts (S.1, S.2.1, S.2.2.1, S.2.2.2.1, c) σ' ∧ offT σ σ' :=
  ⟨⟨fun i hi => ⟨(h.1 i hi).1.off ho ⟨by omega, by omega, by omega⟩, by rw [ho 82 (by decide) (by decide)]; exact (h.1 i hi).2.1, by rw [ho 83 (by decide) (by decide)]; exact (h.1 i hi).2.2⟩, by rw [ho 17 (by decide) (by decide)]; exact h.2.1, hc⟩, fun b h1 h2 => ho b (by omega) (by omega)⟩
theorem cSts.cg {S S' : sS} {σ : mc_G} (h : cSts S σ) (e1 : ∀ j, j < 30 → S'.1 j = S.1 j) (e2 : ∀ j, j < 30 → S'.2.1 j = S.2.1 j) (e3 : ∀ j, j < 30 → S'.2.2.1 j = S.2.2.1 j) (e4 : S'.2.2.2 = S.2.2.2) : cSts S' σ :=
  ⟨fun i hi => by rw [e1 i hi, e2 i hi, e3 i hi]; exact h.1 i hi, by rw [e4]; exact h.2.1, by rw [e4]; exact h.2.2⟩
/-- what an instruction is met with -/
def mtA (T : tT) (n : Nat) (S : sS) (k : Nat) (e : cS) : sS :=
  if k < n then
    (if S.2.1 k = false then (va_up S.1 k e, va_up S.2.1 k true, va_up S.2.2.1 k true, true, S.2.2.2.2)
     else if jcA T (S.1 k) e (8 + (S.1 k).1) = true then (va_up S.1 k (jwA T (S.1 k) e), S.2.1, va_up S.2.2.1 k true, true, S.2.2.2.2)
     else (va_up S.1 k (jwA T (S.1 k) e), S.2))
  else S
def tyA (P : pT) (c : cS) : Nat := nuN P (tpA c 0 - 200)
def psC (P : pT) (T : tT) (k : Nat) (c : cS) : cS := paA T (opA P k) (nuN P k) k (tyA P c) c
/-- what pass() rests on -/
def ppA (P : pT) (T : tT) (k : Nat) (c : cS) : Prop := tkA (opA P k) ≤ c.1 ∧ c.1 - tkA (opA P k) + gvA (opA P k) ≤ 6 ∧ (opA P k = 13 → suA T (opA P k) (nuN P k) c = true → nuA P (tpA c 0 - 200) = nI (tyA P c) ∧ tyA P c < 8 ∧ 200 ≤ tpA c 0)
def pNum (P : pT) : Prop := (∀ k, (opA P k = 3 ∨ opA P k = 4 ∨ opA P k = 5 ∨ opA P k = 6 ∨ opA P k = 14 ∨ opA P k = 15) → nuA P k = nI (nuN P k) ∧ nuN P k < 8) ∧ (∀ k, (opA P k = 4 ∨ opA P k = 6) → nuN P k < 7) ∧ (∀ k, juA P k = true → nuA P k = nI (nuN P k) ∧ nuN P k < 30)
def sh (S : sS) (c : cS) : sS := (S.1, S.2.1, S.2.2.1, S.2.2.2.1, c)
def sv1 (P : pT) (T : tT) (S : sS) (k : Nat) : sS := sh S (psC P T k (S.1 k))
def sv2 (P : pT) (T : tT) (S : sS) (k : Nat) : sS := if goA P k = true then mtA T (pn P) S (k + 1) S.2.2.2.2 else S
def sv3 (P : pT) (T : tT) (S : sS) (k : Nat) : sS := if juA P k = true then mtA T (pn P) S (nuN P k) S.2.2.2.2 else S
def sv4 (P : pT) (T : tT) (k : Nat) (S : sS) (j : Nat) : sS := if cvA P j k = true then mtA T (pn P) (sh S (1, va_up (S.1 k).2 8 (100 + qk P j))) (qa P j) (1, va_up (S.1 k).2 8 (100 + qk P j)) else S
def svA (P : pT) (T : tT) (S : sS) (k : Nat) : sS := foR (sv4 P T k) (qn P) 0 (sv3 P T (sv2 P T (sv1 P T S k) k) k)

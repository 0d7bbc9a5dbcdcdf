/-- n turns from i on -/
def foR {α : Type} (f : α → Nat → α) : Nat → Nat → α → α
  | 0, _, z => z
  | n + 1, i, z => foR f n (i + 1) (f z i)
theorem nx_or (a b : Nat) : nI a ||| nI b = nI (a ||| b) := by
  apply Int32.toBitVec_inj.1
  show BitVec.ofNat 32 a ||| BitVec.ofNat 32 b = BitVec.ofNat 32 (a ||| b)
  apply BitVec.eq_of_getLsbD_eq
  intro i hi
  simp [BitVec.getLsbD_ofNat, Nat.testBit_or, hi]
theorem nx_and (a b : Nat) : nI a &&& nI b = nI (a &&& b) := by
  apply Int32.toBitVec_inj.1
  show BitVec.ofNat 32 a &&& BitVec.ofNat 32 b = BitVec.ofNat 32 (a &&& b)
  apply BitVec.eq_of_getLsbD_eq
  intro i hi
  simp [BitVec.getLsbD_ofNat, Nat.testBit_and, hi]
theorem nE_and {x y : Int32} {a b : Nat} (hx : x = nI a) (hy : y = nI b) : x &&& y = nI (a &&& b) := by rw [hx, hy, nx_and]
theorem nE_or {x y : Int32} {a b : Nat} (hx : x = nI a) (hy : y = nI b) : x ||| y = nI (a ||| b) := by rw [hx, hy, nx_or]
theorem nE_sh {x y : Int32} {s : Nat} (hx : x = nI 1) (hy : y = nI s) (hs : s ≤ 6) : x <<< (y &&& 31) = nI (2 ^ s) := by
  subst hx hy
  have hall : ∀ s, s < 7 → nI 1 <<< (nI s &&& 31) = nI (2 ^ s) := by decide +kernel
  exact hall s (by omega)
theorem bt_0 {m s : Nat} (hm : m < 128) (hs : s ≤ 6) : (m &&& 2 ^ s = 0) ↔ m.testBit s = false := by
  have hall : ∀ m, m < 128 → ∀ s, s < 7 → ((m &&& 2 ^ s = 0) ↔ m.testBit s = false) := by decide +kernel
  exact hall m hm s (by omega)
theorem bt_lt {m s : Nat} (hm : m < 128) (hs : s ≤ 6) : m &&& 2 ^ s < 128 ∧ m ||| 2 ^ s < 128 ∧ 2 ^ s < 128 := by
  have hall : ∀ m, m < 128 → ∀ s, s < 7 → m &&& 2 ^ s < 128 ∧ m ||| 2 ^ s < 128 ∧ 2 ^ s < 128 := by decide +kernel
  exact hall m hm s (by omega)
/-! the sizes with which each instruction is come to (bits), those that wait, whether something has changed -/
abbrev zS : Type := (Nat → Nat) × (Nat → Bool) × Bool
def cSiz (Z : zS) (σ : mc_G) : Prop := (∀ i, i < 30 → σ 14 i = nI (Z.1 i) ∧ Z.1 i < 128 ∧ σ 15 i = bI (Z.2.1 i)) ∧ σ 13 3 = bI Z.2.2
def offS (σ σ' : mc_G) : Prop := ∀ b, b ≠ 13 → b ≠ 14 → b ≠ 15 → σ' b = σ b
theorem offS.tr {σ σ1 σ2 : mc_G} (h : offS σ σ1) (k : offS σ1 σ2) : offS σ σ2 := fun b h1 h2 h3 => (k b h1 h2 h3).trans (h b h1 h2 h3)
theorem offS.rf {σ : mc_G} : offS σ σ := fun _ _ _ _ => rfl
theorem cSiz.m {Z : zS} {σ : mc_G} {x v : Int32} {j q : Nat} (h : cSiz Z σ) (hx : x = nI j) (hj : j < 30) (hv : v = nI q) (hq : q < 128) : cSiz (va_up Z.1 j q, Z.2) (mc_up σ 14 x.toNatClampNeg v) ∧ offS σ (mc_up σ 14 x.toNatClampNeg v) := by
  rw [clE hx (by omega)]
  refine ⟨⟨fun i hi => ?_, by rw [mc_upn _ _ _ (by decide)]; exact h.2⟩, fun b h1 h2 h3 => mc_upn _ _ _ h2⟩
  rw [mc_upa, mc_upn _ _ _ (show (15 : Nat) ≠ 14 by decide)]
  by_cases e : i = j
  · simp [e, va_up, hv, hq]; exact (h.1 j hj).2.2
  · simpa [e, va_up] using h.1 i hi
theorem cSiz.w {Z : zS} {σ : mc_G} {x v : Int32} {j : Nat} {q : Bool} (h : cSiz Z σ) (hx : x = nI j) (hj : j < 30) (hv : v = bI q) : cSiz (Z.1, va_up Z.2.1 j q, Z.2.2) (mc_up σ 15 x.toNatClampNeg v) ∧ offS σ (mc_up σ 15 x.toNatClampNeg v) := by
  rw [clE hx (by omega)]
  refine ⟨⟨fun i hi => ?_, by rw [mc_upn _ _ _ (by decide)]; exact h.2⟩, fun b h1 h2 h3 => mc_upn _ _ _ h3⟩
  rw [mc_upa, mc_upn _ _ _ (show (14 : Nat) ≠ 15 by decide)]
  by_cases e : i = j
  · subst e; simp [va_up, hv]; exact ⟨(h.1 i hi).1, (h.1 i hi).2.1⟩
  · simpa [e, va_up] using h.1 i hi
theorem cSiz.g {Z : zS} {σ : mc_G} {v : Int32} {q : Bool} (h : cSiz Z σ) (hv : v = bI q) : cSiz (Z.1, Z.2.1, q) (mc_up σ 13 3 v) ∧ offS σ (mc_up σ 13 3 v) := by
  refine ⟨⟨fun i hi => ?_, by rw [mc_upa]; simpa using hv⟩, fun b h1 h2 h3 => mc_upn _ _ _ h1⟩
  rw [mc_upn _ _ _ (show (14 : Nat) ≠ 13 by decide), mc_upn _ _ _ (show (15 : Nat) ≠ 13 by decide)]
  exact h.1 i hi
def snA (n : Nat) (Z : zS) (k : Nat) : Nat := if k < n then Z.1 k else 0
def coA (n : Nat) (Z : zS) (j s : Nat) : zS := if j < n ∧ (Z.1 j).testBit s = false then (va_up Z.1 j (Z.1 j ||| 2 ^ s), va_up Z.2.1 j true, true) else Z
def fiA (o s : Nat) : Bool := decide (tkA o ≤ s) && decide (s - tkA o + gvA o ≤ 6)
def gnA (P : pT) (q : Nat) (Z : zS) (k s : Nat) : zS := if juA P k = true then coA (pn P) (if goA P k = true then coA (pn P) Z (k + 1) s else Z) q s else (if goA P k = true then coA (pn P) Z (k + 1) s else Z)
def lsA (P : pT) (q k : Nat) (Z : zS) (s : Nat) : zS := if (snA (pn P) Z k).testBit s = true ∧ fiA (opA P k) s = true then gnA P q Z k (s - tkA (opA P k) + gvA (opA P k)) else Z
def lhA (P : pT) (k : Nat) (Z : zS) (j : Nat) : zS := if cvA P j k = true then coA (pn P) Z (qa P j) 1 else Z
def lvA (P : pT) (q : Nat) (Z : zS) (k : Nat) : zS := foR (lhA P k) (qn P) 0 (foR (lsA P q k) 7 0 Z)
/-- the number of an instruction, where it is one -/
def nuN (P : pT) (k : Nat) : Nat := (nuA P k).toNatClampNeg
def rdA (P : pT) (Z : zS) (k : Nat) : zS := if Z.2.1 k = true then lvA P (nuN P k) (Z.1, va_up Z.2.1 k false, Z.2.2) k else Z
def rnA (P : pT) (Z : zS) : zS := foR (rdA P) 30 0 (Z.1, Z.2.1, false)
def fwA (P : pT) : Nat → zS → zS
  | 0, Z => Z
  | n + 1, Z => if Z.2.2 = true then fwA P n (rnA P Z) else Z

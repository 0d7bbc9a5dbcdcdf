/-! THE PICTURES. A program: how many instructions, their OPs, their numbers; how many handlers, from, to, at, TYPE. -/
abbrev pT : Type := Nat × (Nat → Nat) × (Nat → Int32) × Nat × (Nat → Nat) × (Nat → Nat) × (Nat → Nat) × (Nat → Nat)
def pn (P : pT) : Nat := P.1
def po (P : pT) : Nat → Nat := P.2.1
def pa (P : pT) : Nat → Int32 := P.2.2.1
def qn (P : pT) : Nat := P.2.2.2.1
def qf (P : pT) : Nat → Nat := P.2.2.2.2.1
def qt (P : pT) : Nat → Nat := P.2.2.2.2.2.1
def qa (P : pT) : Nat → Nat := P.2.2.2.2.2.2.1
def qk (P : pT) : Nat → Nat := P.2.2.2.2.2.2.2
/-- what op() and handler() let in -/
def pOk (tc : Nat) (P : pT) : Prop := pn P ≤ 30 ∧ qn P ≤ 4 ∧ (∀ k, k < pn P → po P k ≤ 20) ∧ (∀ j, j < qn P → qf P j < qt P j ∧ qt P j ≤ 30 ∧ qa P j < 30 ∧ qk P j < tc)
  ∧ (∀ k, k < pn P → (po P k = 3 ∨ po P k = 5) → ∃ q, q < 8 ∧ pa P k = nI q) ∧ (∀ k, k < pn P → (po P k = 4 ∨ po P k = 6) → ∃ q, q < 7 ∧ pa P k = nI q)
  ∧ (∀ k, k < pn P → (po P k = 12 ∨ po P k = 14 ∨ po P k = 15) → ∃ q, q < tc ∧ pa P k = nI q) ∧ (∀ k, k < pn P → (16 ≤ po P k ∧ po P k ≤ 18) → ∃ q, q < 30 ∧ pa P k = nI q)
/-- the class's Code holds a program -/
def cCode (P : pT) (σ : mc_G) : Prop := σ 4 2 = nI (pn P) ∧ σ 4 7 = nI (qn P) ∧ (∀ k, k < pn P → σ 5 k = nI (po P k) ∧ σ 6 k = pa P k) ∧ (∀ j, j < qn P → σ 7 j = nI (qf P j) ∧ σ 8 j = nI (qt P j) ∧ σ 9 j = nI (qa P j) ∧ σ 10 j = nI (qk P j))
theorem cCode.to {P : pT} {σ σ' : mc_G} (h : cCode P σ) (e : ∀ b, 4 ≤ b → b ≤ 10 → σ' b = σ b) : cCode P σ' := by
  obtain ⟨h1, h2, h3, h4⟩ := h
  exact ⟨by rw [e 4 (by decide) (by decide)]; exact h1, by rw [e 4 (by decide) (by decide)]; exact h2, fun k hk => by rw [e 5 (by decide) (by decide), e 6 (by decide) (by decide)]; exact h3 k hk, fun j hj => by rw [e 7 (by decide) (by decide), e 8 (by decide) (by decide), e 9 (by decide) (by decide), e 10 (by decide) (by decide)]; exact h4 j hj⟩
def opA (P : pT) (k : Nat) : Nat := if k < pn P then po P k else 19
def nuA (P : pT) (k : Nat) : Int32 := if k < pn P then pa P k else 0
def goA (P : pT) (k : Nat) : Bool := decide (opA P k < 18)
def juA (P : pT) (k : Nat) : Bool := decide (16 ≤ opA P k) && decide (opA P k ≤ 18)
def cvA (P : pT) (j k : Nat) : Bool := decide (j < qn P) && decide (qf P j ≤ k) && decide (k < qt P j)
def stA (P : pT) (j : Nat) : Int32 := if j < qn P then nI (qa P j) else -1
def thA (P : pT) (j : Nat) : Nat := if j < qn P then 100 + qk P j else 0

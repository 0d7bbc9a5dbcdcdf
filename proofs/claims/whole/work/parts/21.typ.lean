/-! types: how many, each one's parent, whether it is a face -/
abbrev tT : Type := Nat × (Nat → Nat) × (Nat → Bool)
def tc (T : tT) : Nat := T.1
def tp (T : tT) : Nat → Nat := T.2.1
def tf (T : tT) : Nat → Bool := T.2.2
def tOk (T : tT) : Prop := 1 ≤ tc T ∧ tc T ≤ 8 ∧ tf T 0 = false ∧ tp T 0 = 0 ∧ (∀ t, 0 < t → t < tc T → tp T t < t) ∧ (∀ t, t < tc T → tf T (tp T t) = false) ∧ (∀ t, t < tc T → tf T t = true → tp T t = 0)
def neF (T : tT) : Nat → Nat → Nat → Nat
  | 0, _, _ => 0
  | n + 1, i, j => if i = j then i else if j < i then neF T n (tp T i) j else neF T n i (tp T j)
def neA (T : tT) (i j : Nat) : Nat := neF T 16 i j
def thK (T : tT) (k : Nat) : Bool := decide (100 ≤ k) && decide (k < 100 + tc T)
def rfK (T : tT) (k : Nat) : Bool := decide (k = 4) || thK T k
def plK (T : tT) (k : Nat) : Bool := decide (k = 0) || decide (k = 1) || rfK T k
def bgK (k : Nat) : Bool := decide (200 ≤ k) && decide (k < 230)
def isK (T : tT) (k : Nat) : Bool := plK T k || decide (k = 2) || decide (k = 3) || bgK k
def gfA (T : tT) (a b : Nat) : Bool := decide (a = b) || decide (b = 0) || (thK T b && rfK T a && (decide (a = 4) || tf T (b - 100) || decide (neA T (a - 100) (b - 100) = b - 100)))
def jnA (T : tT) (a b : Nat) : Nat := if a = b then a else if rfK T a = true ∧ rfK T b = true then (if a = 4 then b else if b = 4 then a else 100 + neA T (a - 100) (b - 100)) else 0
/-- the class's Types holds types -/
def cTyp (T : tT) (σ : mc_G) : Prop := σ 1 2 = nI (tc T) ∧ (∀ t, t < tc T → σ 3 t = bI (tf T t)) ∧ (∀ i j, i < tc T → j < tc T → σ 2 (i * 8 + j) = nI (neA T i j))
theorem cTyp.to {T : tT} {σ σ' : mc_G} (h : cTyp T σ) (e : ∀ b, 1 ≤ b → b ≤ 3 → σ' b = σ b) : cTyp T σ' := by
  obtain ⟨h1, h2, h3⟩ := h
  exact ⟨by rw [e 1 (by decide) (by decide)]; exact h1, fun t ht => by rw [e 3 (by decide) (by decide)]; exact h2 t ht, fun i j hi hj => by rw [e 2 (by decide) (by decide)]; exact h3 i j hi hj⟩
theorem neF_lt (T : tT) (hT : tOk T) : ∀ (n i j : Nat), i < tc T → j < tc T → neF T n i j < tc T := by
  obtain ⟨h1, h2, -, -, h5, -⟩ := hT
  intro n
  induction n with
  | zero => intro i j _ _; show 0 < tc T; omega
  | succ n ih =>
    intro i j hi hj
    unfold neF
    split
    · exact hi
    · split
      · rename_i h
        have := h5 i (by omega) hi
        exact ih _ _ (by omega) hj
      · have := h5 j (by omega) hj
        exact ih _ _ hi (by omega)
theorem neA_lt {T : tT} (hT : tOk T) {i j : Nat} (hi : i < tc T) (hj : j < tc T) : neA T i j < tc T := neF_lt T hT 16 i j hi hj
theorem iT (n : Nat) (h : n < 2 ^ 31 := by decide) : (nI n).toInt = (n : Int) := nI_toInt h
theorem neg_nI {x : Int32} (h : x < 0) {n : Nat} (hn : n < 2 ^ 31 := by decide) : ¬ x = nI n := by
  intro e
  rw [e] at h
  exact nI_pos hn h
theorem neg_lt {x : Int32} (h : x < 0) {n : Nat} (hn : n < 2 ^ 31 := by decide) : x < nI n := by
  have h1 := Int32.lt_iff_toInt_lt.mp h
  apply Int32.lt_iff_toInt_lt.mpr
  rw [nI_toInt hn]
  have : (0 : Int32).toInt = 0 := rfl
  omega

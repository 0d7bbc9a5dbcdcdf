/-! places: how high the pile is, and the kinds of all fourteen -/
abbrev cS : Type := Nat × (Nat → Nat)
def cCel (a : Nat) (c : cS) (σ : mc_G) : Prop := σ a 1 = nI c.1 ∧ c.1 ≤ 6 ∧ ∀ j, j < 14 → σ (a + 1) j = nI (c.2 j) ∧ c.2 j < 300
def offC (a : Nat) (σ σ' : mc_G) : Prop := ∀ b, b ≠ a → b ≠ a + 1 → σ' b = σ b
theorem offC.rf {a : Nat} {σ : mc_G} : offC a σ σ := fun _ _ _ => rfl
theorem offC.k {a p : Nat} {σ σ' : mc_G} {v : Int32} (h : offC a σ σ') : offC a σ (mc_up σ' (a + 1) p v) := fun b h1 h2 => (mc_upn _ _ _ h2).trans (h b h1 h2)
theorem offC.h {a p : Nat} {σ σ' : mc_G} {v : Int32} (h : offC a σ σ') : offC a σ (mc_up σ' a p v) := fun b h1 h2 => (mc_upn _ _ _ h1).trans (h b h1 h2)
theorem offC.tr {a : Nat} {σ σ1 σ2 : mc_G} (h : offC a σ σ1) (k : offC a σ1 σ2) : offC a σ σ2 := fun b h1 h2 => (k b h1 h2).trans (h b h1 h2)
theorem cCel.k {a p q : Nat} {c : cS} {σ : mc_G} {i v : Int32} (h : cCel a c σ) (hi : i = nI p) (hp : p < 14) (hv : v = nI q) (hq : q < 300) : cCel a (c.1, va_up c.2 p q) (mc_up σ (a + 1) i.toNatClampNeg v) := by
  obtain ⟨h1, h2, h3⟩ := h
  rw [clE hi (by omega)]
  refine ⟨by rw [mc_upn _ _ _ (by omega)]; exact h1, h2, fun j hj => ?_⟩
  rw [mc_upa]
  by_cases e : j = p
  · simp [e, va_up, hv, hq]
  · simpa [e, va_up] using h3 j hj
theorem cCel.h {a q : Nat} {c : cS} {σ : mc_G} {v : Int32} (h : cCel a c σ) (hv : v = nI q) (hq : q ≤ 6) : cCel a (q, c.2) (mc_up σ a 1 v) := by
  obtain ⟨h1, h2, h3⟩ := h
  refine ⟨by rw [mc_upa]; simpa using hv, hq, fun j hj => ?_⟩
  rw [mc_upn _ _ _ (by omega)]
  exact h3 j hj
theorem cCel.to {a : Nat} {c : cS} {σ σ' : mc_G} (h : cCel a c σ) (e1 : σ' a = σ a) (e2 : σ' (a + 1) = σ (a + 1)) : cCel a c σ' := by
  obtain ⟨h1, h2, h3⟩ := h
  exact ⟨by rw [e1]; exact h1, h2, fun j hj => by rw [e2]; exact h3 j hj⟩
def apC (a d : Nat) : Prop := d ≠ a ∧ d ≠ a + 1 ∧ d + 1 ≠ a
theorem cCel.off {a d : Nat} {c : cS} {σ σ' : mc_G} (h : cCel d c σ) (o : offC a σ σ') (n : apC a d) : cCel d c σ' := h.to (o d n.1 n.2.1) (o (d + 1) n.2.2 (fun e => n.1 (by omega)))
def kA (c : cS) (p : Nat) : Nat := if p < 8 + c.1 then c.2 p else 0
def tpA (c : cS) (d : Nat) : Nat := if d < c.1 then c.2 (7 + c.1 - d) else 0
def ptA (c : cS) (p q : Nat) : cS := if p < 8 + c.1 then (c.1, va_up c.2 p q) else c
def psA (c : cS) (q : Nat) : cS := if c.1 < 6 then (c.1 + 1, va_up c.2 (8 + c.1) q) else c
def drA (c : cS) (m : Nat) : cS := (c.1 - m, c.2)
def bkA (c : cS) (p : Nat) : cS := if kA c p = 2 ∧ p + 1 < 8 then (c.1, va_up c.2 (p + 1) 0) else if kA c p = 3 ∧ 0 < p then (c.1, va_up c.2 (p - 1) 0) else c
def soA (c : cS) (p q : Nat) : cS := ptA (bkA c p) p q
def slA (c : cS) (p : Nat) : cS := ptA (ptA (bkA (bkA c p) (p + 1)) p 2) (p + 1) 3
def rpA (c : cS) (q r : Nat) : cS := (c.1, fun j => if c.2 j = q then r else c.2 j)
theorem maxE0 {x y : Int32} {h m : Nat} (hx : x = nI h) (hy : y = nI m) (h1 : h < 2 ^ 30) (h2 : m < 2 ^ 30) : (if (0 : Int32) < x - y then x - y else 0) = nI (h - m) := by
  rw [hx, hy]
  by_cases e : m < h
  · rw [pk_sub (by omega), if_pos]
    have := nI_lt (a := 0) (b := h - m) (by omega) (by omega)
    exact this
  · rw [if_neg]
    · rw [show h - m = 0 by omega]; rfl
    · intro q
      by_cases e2 : h = m
      · subst e2
        rw [pk_sub (Nat.le_refl _)] at q
        rw [show h - h = 0 by omega] at q
        exact absurd q (by decide)
      · have := pk_sneg (a := h) (b := m) h2 (by omega)
        have h3 := Int32.lt_iff_toInt_lt.mp this
        have h4 := Int32.lt_iff_toInt_lt.mp q
        omega
theorem minmaxE {x : Int32} {h : Nat} (hx : x = nI h) (h6 : h ≤ 6) : (if (0 : Int32) < (if x < 6 then x else 6) then (if x < 6 then x else 6) else 0) = nI h := by
  subst hx
  have hall : ∀ h, h < 7 → (if (0 : Int32) < (if nI h < 6 then nI h else 6) then (if nI h < 6 then nI h else 6) else 0) = nI h := by decide +kernel
  exact hall h (by omega)
/-- the first i places as F says, the others as f -/
def pmA (F f : Nat → Nat) (i : Nat) : Nat → Nat := fun j => if j < i then F j else f j
theorem pmA_up {F f : Nat → Nat} {i r : Nat} (h : F i = r) : va_up (pmA F f i) i r = pmA F f (i + 1) := by
  funext j
  unfold va_up pmA
  by_cases e : j = i
  · subst e; rw [if_pos rfl, if_pos (by omega), h]
  · rw [if_neg e]
    by_cases e2 : j < i
    · rw [if_pos e2, if_pos (by omega)]
    · rw [if_neg e2, if_neg (by omega)]
theorem pmA_sk {F f : Nat → Nat} {i : Nat} (h : F i = f i) : pmA F f i = pmA F f (i + 1) := by
  rw [← pmA_up h]
  funext j
  unfold va_up pmA
  by_cases e : j = i
  · subst e; rw [if_pos rfl, if_neg (by omega)]
  · rw [if_neg e]
theorem pmA_0 (F f : Nat → Nat) : pmA F f 0 = f := by funext j; unfold pmA; rw [if_neg (by omega)]
theorem pmA_at (F f : Nat → Nat) (i : Nat) : pmA F f i i = f i := by unfold pmA; rw [if_neg (by omega)]
theorem cCel.cg {a h : Nat} {g g' : Nat → Nat} {σ : mc_G} (hc : cCel a (h, g) σ) (e : ∀ j, j < 14 → g j = g' j) : cCel a (h, g') σ := ⟨hc.1, hc.2.1, fun j hj => by have := hc.2.2 j hj; rw [show (h, g').2 j = g j from (e j hj).symm]; exact this⟩
theorem cCel.pm {a h : Nat} {F f : Nat → Nat} {σ : mc_G} {i : Nat} (hc : cCel a (h, pmA F f i) σ) (hi : 14 ≤ i) : cCel a (h, F) σ := hc.cg (fun j hj => by unfold pmA; rw [if_pos (by omega)])
theorem cCel.rp {a h i : Nat} {F f : Nat → Nat} {σ : mc_G} (hc : cCel a (h, pmA F f i) σ) (hi : i < 14) : σ (a + 1) i = nI (f i) ∧ f i < 300 := by
  have := hc.2.2 i hi
  rw [show (h, pmA F f i).2 i = f i from pmA_at F f i] at this
  exact this

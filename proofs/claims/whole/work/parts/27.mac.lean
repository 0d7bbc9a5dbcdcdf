theorem kA_lt {a : Nat} {c : cS} {σ : mc_G} (hc : cCel a c σ) (p : Nat) : kA c p < 300 := by
  have := hc.2.1
  unfold kA; split
  · exact (hc.2.2 p (by omega)).2
  · decide
theorem tpA_lt {a : Nat} {c : cS} {σ : mc_G} (hc : cCel a c σ) (d : Nat) : tpA c d < 300 := by
  have := hc.2.1
  unfold tpA; split
  · exact (hc.2.2 _ (by omega)).2
  · decide
def tkA (o : Nat) : Nat := [0, 0, 0, 0, 0, 1, 2, 1, 2, 1, 2, 4, 0, 1, 1, 1, 1, 2, 0, 0, 1].getD o 0
def gvA (o : Nat) : Nat := [1, 2, 1, 1, 2, 0, 0, 0, 0, 2, 1, 2, 1, 0, 1, 0, 0, 0, 0, 0, 0].getD o 0
/-- the two rows of the class -/
def cSta (σ : mc_G) : Prop := ∀ o, o < 21 → σ 1000 o = nI (tkA o) ∧ σ 1001 o = nI (gvA o)
theorem tkA_le (o : Nat) : tkA o ≤ 4 := by
  by_cases h : o < 21
  · have hall : ∀ o, o < 21 → tkA o ≤ 4 := by decide
    exact hall o h
  · unfold tkA; rw [List.getD_eq_getElem?_getD, List.getElem?_eq_none (by simp; omega)]; decide
theorem gvA_le (o : Nat) : gvA o ≤ 2 := by
  by_cases h : o < 21
  · have hall : ∀ o, o < 21 → gvA o ≤ 2 := by decide
    exact hall o h
  · unfold gvA; rw [List.getD_eq_getElem?_getD, List.getElem?_eq_none (by simp; omega)]; decide
def whK (k : Nat) : Bool := !decide (k = 0) && !decide (k = 2) && !decide (k = 3)
def loK (x y : Nat) : Bool := decide (x = 2) && decide (y = 3)
/-- is what is at hand as an OP wants (o the OP, q its number) -/
def suA (T : tT) (o q : Nat) (c : cS) : Bool :=
  if o = 3 then whK (kA c q) else if o = 4 then loK (kA c q) (kA c (q + 1)) else if o = 5 ∨ o = 7 ∨ o = 9 then whK (tpA c 0) else if o = 6 then loK (tpA c 1) (tpA c 0)
  else if o = 8 then loK (tpA c 1) (tpA c 0) || (whK (tpA c 1) && whK (tpA c 0)) else if o = 10 then decide (tpA c 1 = 1) && decide (tpA c 0 = 1) else if o = 11 then loK (tpA c 3) (tpA c 2) && loK (tpA c 1) (tpA c 0)
  else if o = 13 then bgK (tpA c 0) else if o = 14 ∨ o = 20 then rfK T (tpA c 0) else if o = 15 then rfK T (tpA c 0) && gfA T (tpA c 0) (100 + q) else if o = 16 then decide (tpA c 0 = 1) else if o = 17 then rfK T (tpA c 1) && rfK T (tpA c 0) else true
/-- what an OP makes of the places (k its own number, t the TYPE that is made) -/
def wkA (o q k t : Nat) (c : cS) : cS :=
  if o = 0 ∨ o = 10 then psA (drA c (tkA o)) 1 else if o = 1 ∨ o = 4 ∨ o = 11 then psA (psA (drA c (tkA o)) 2) 3 else if o = 2 then psA (drA c (tkA o)) 4 else if o = 3 then psA (drA c (tkA o)) (kA (drA c (tkA o)) q)
  else if o = 5 then soA (drA c (tkA o)) q (tpA c 0) else if o = 6 then slA (drA c (tkA o)) q else if o = 9 then psA (psA (drA c (tkA o)) (tpA c 0)) (tpA c 0) else if o = 12 then psA (rpA (drA c (tkA o)) (200 + k) 0) (200 + k)
  else if o = 13 then rpA (drA c (tkA o)) (tpA c 0) (100 + t) else if o = 14 then psA (drA c (tkA o)) (100 + q) else drA c (tkA o)
section WPS
variable {cd : List mc_I} {lo : List (Nat × mc_V)} {st : List mc_V} {σ : mc_G} {Φ : Option mc_V → mc_G → Prop} {x : Int32} {o : Nat} {r : List Nat}
theorem Wp.swI {l h : Int} (j : Nat) (hx : x = nI o) (h31 : o < 2 ^ 31) (ho : (o : Int) = l + j) (hh : (o : Int) ≤ h) (k : Wp cd (r.getD (j + 1) 0) lo st σ Φ) : Wp cd (if x.toInt < l ∨ h < x.toInt then r.getD 0 0 else r.getD ((x.toInt - l).toNat + 1) 0) lo st σ Φ := by
  subst hx
  rw [nI_toInt h31, if_neg (by omega), show ((o : Int) - l).toNat = j by omega]
  exact k
theorem Wp.swO {l h : Int} (hx : x = nI o) (h31 : o < 2 ^ 31) (ho : (o : Int) < l ∨ h < (o : Int)) (k : Wp cd (r.getD 0 0) lo st σ Φ) : Wp cd (if x.toInt < l ∨ h < x.toInt then r.getD 0 0 else r.getD ((x.toInt - l).toNat + 1) 0) lo st σ Φ := by
  subst hx
  rw [nI_toInt h31, if_pos ho]
  exact k
end WPS

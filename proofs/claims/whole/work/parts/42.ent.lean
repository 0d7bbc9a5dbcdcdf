/-! what is WRITTEN of LOCALS or of THE PILE -/
abbrev eS : Type := Nat × (Nat → Nat)
def cEnt (a : Nat) (E : eS) (σ : mc_G) : Prop := σ a 1 = nI E.1 ∧ E.1 ≤ 8 ∧ ∀ j, j < 8 → σ (a + 1) j = nI (E.2 j) ∧ E.2 j < 300
theorem cEnt.k {a p q : Nat} {c : eS} {σ : mc_G} {i v : Int32} (h : cEnt a c σ) (hi : i = nI p) (hp : p < 8) (hv : v = nI q) (hq : q < 300) : cEnt a (c.1, va_up c.2 p q) (mc_up σ (a + 1) i.toNatClampNeg v) := by
  rw [clE hi (by omega)]
  refine ⟨by rw [mc_upn _ _ _ (by omega)]; exact h.1, h.2.1, fun j hj => ?_⟩
  rw [mc_upa]
  by_cases e : j = p
  · simp [e, va_up, hv, hq]
  · simpa [e, va_up] using h.2.2 j hj
theorem cEnt.h {a q : Nat} {c : eS} {σ : mc_G} {v : Int32} (h : cEnt a c σ) (hv : v = nI q) (hq : q ≤ 8) : cEnt a (q, c.2) (mc_up σ a 1 v) := by
  refine ⟨by rw [mc_upa]; simpa using hv, hq, fun j hj => ?_⟩
  rw [mc_upn _ _ _ (by omega)]
  exact h.2.2 j hj
theorem cEnt.to {a : Nat} {c : eS} {σ σ' : mc_G} (h : cEnt a c σ) (e1 : σ' a = σ a) (e2 : σ' (a + 1) = σ (a + 1)) : cEnt a c σ' := by
  unfold cEnt at *; rw [e1, e2]; exact h
theorem cEnt.off {a d : Nat} {c : eS} {σ σ' : mc_G} (h : cEnt d c σ) (o : offC a σ σ') (n : apC a d) : cEnt d c σ' := h.to (o d n.1 n.2.1) (o (d + 1) n.2.2 (fun e => n.1 (by omega)))
def ekA (E : eS) (i : Nat) : Nat := if i < E.1 then E.2 i else 0
def etA (c : cS) (E : eS) (p : Nat) : eS := if ¬ kA c p = 3 ∧ E.1 < 8 then (E.1 + 1, va_up E.2 E.1 (kA c p)) else E
def teA (c : cS) (f t : Nat) (E : eS) : eS := foR (etA c) (t - f) f (0, E.2)
def tmA : Nat → eS → eS
  | 0, E => E
  | n + 1, E => if E.2 (E.1 - 1) = 0 then tmA n (E.1 - 1, E.2) else E
def tlA (c : cS) (E : eS) : eS := tmA (teA c 0 8 E).1 (teA c 0 8 E)
def tqA (c : cS) (E : eS) : eS := teA c 8 (8 + c.1) E
def bkS (E D : eS) (b : Bool) (i : Nat) : Bool := b && decide (ekA E i = ekA D i)
def baA (E D : eS) : Bool := foR (bkS E D) (min E.1 D.1) 0 true
set_option maxRecDepth 100000 in
theorem sX2_count {a : Nat} {E : eS} {σ : mc_G} (hN : isN a) (hE : cEnt a E σ) : Wp miX2_count 0 [(0, .inr (some a))] [] σ (fun rv σ' => rv = some (.inl (nI (E.1))) ∧ σ' = σ) := by
  have hh8 := hE.2.1
  refine Wp.go rfl ?_
  refine Wp.gN1 hN rfl ?_
  refine Wp.ret rfl ?_
  exact ⟨rvN (hE).1 (by rfl), rfl⟩
set_option maxRecDepth 100000 in
theorem sX2_kindAt {a : Nat} {E : eS} {σ : mc_G} (hN : isN a) (hE : cEnt a E σ) {x : Int32} {p : Nat} (hx : x = nI p) (hp : p < 2 ^ 30) : Wp miX2_kindAt 0 [(0, .inr (some a)), (1, .inl x)] [] σ (fun rv σ' => rv = some (.inl (nI (ekA E p))) ∧ σ' = σ) := by
  have hh8 := hE.2.1
  iterate 2 refine Wp.go rfl ?_
  refine Wp.ltN (a := p) (b := 0) hx (rfl : _ = nI 0) (by omega) (by omega) (fun (h1 : p < 0) => ?_) (fun (h1 : ¬ p < 0) => ?_)
  · refine Wp.go rfl ?_
    refine Wp.ret rfl ?_
    exact ⟨rvN (rfl : _ = nI 0) (by simp only [ekA]; first | (exfalso; omega) | (rw [if_neg (by omega)]; done) | (rw [if_pos (by omega)]; done)), rfl⟩
  · iterate 2 refine Wp.go rfl ?_
    refine Wp.gN1 hN rfl ?_
    refine Wp.go rfl ?_
    refine Wp.geN (a := p) (b := E.1) hx (hE).1 (by omega) (by omega) (fun (h2 : ¬ p < E.1) => ?_) (fun (h2 : p < E.1) => ?_)
    · refine Wp.go rfl ?_
      refine Wp.ret rfl ?_
      exact ⟨rvN (rfl : _ = nI 0) (by simp only [ekA]; first | (exfalso; omega) | (rw [if_neg (by omega)]; done) | (rw [if_pos (by omega)]; done)), rfl⟩
    · iterate 3 refine Wp.go rfl ?_
      refine Wp.geN (a := p) (b := 8) hx (rfl : _ = nI 8) (by omega) (by omega) (fun (h3 : ¬ p < 8) => ?_) (fun (h3 : p < 8) => ?_)
      · refine Wp.go rfl ?_
        refine Wp.ret rfl ?_
        exact ⟨rvN (rfl : _ = nI 0) (by simp only [ekA]; first | (exfalso; omega) | (rw [if_neg (by omega)]; done) | (rw [if_pos (by omega)]; done)), rfl⟩
      · refine Wp.go rfl ?_
        refine Wp.gN0 hN rfl ?_
        refine Wp.go rfl ?_
        refine Wp.ldN hN rfl (inE (n := 8) hx (by omega)) ?_
        refine Wp.go rfl ?_
        refine Wp.ret rfl ?_
        exact ⟨rvN (rdE hx (by omega) ((hE).2.2 p (by omega)).1) (by simp only [ekA]; first | (exfalso; omega) | (rw [if_neg (by omega)]; done) | (rw [if_pos (by omega)]; done)), rfl⟩
set_option maxRecDepth 100000 in
theorem lX2_take {a d : Nat} {c : cS} (hN : isN a) (hC : isC d) (n1 : apC a d) {z2 z3 : Int32} {t : Nat} (ht : z3 = nI t) (ht14 : t ≤ 14) {σ0 : mc_G} : ∀ (n i : Nat) (x4 : Int32), x4 = nI i → i + n = t → ∀ (E : eS) (σ : mc_G), cEnt a E σ → cCel d c σ → offC a σ0 σ → Wp miX2_take 8 [(0, .inr (some a)), (1, .inr (some d)), (2, .inl (z2)), (3, .inl z3), (4, .inl x4)] [] σ (fun rv σ' => rv = none ∧ cEnt a (foR (etA c) n i E) σ' ∧ offC a σ0 σ') := by
  intro n
  induction n with
  | zero =>
    intro i x4 hz4 hin E σ hE hc ho
    have hh8 := hE.2.1
    iterate 3 refine Wp.go rfl ?_
    refine Wp.geN (a := i) (b := t) hz4 ht (by omega) (by omega) (fun (h1 : ¬ i < t) => ?_) (fun (h1 : i < t) => ?_)
    · refine Wp.ret rfl ?_
      exact ⟨rfl, hE, ho⟩
    · exfalso; omega
  | succ n ih =>
    intro i x4 hz4 hin E σ hE hc ho
    have hh8 := hE.2.1
    have hk3 := kA_lt hc i
    iterate 3 refine Wp.go rfl ?_
    refine Wp.geN (a := i) (b := t) hz4 ht (by omega) (by omega) (fun (h1 : ¬ i < t) => ?_) (fun (h1 : i < t) => ?_)
    · refine Wp.ret rfl ?_
      exfalso; omega
    · iterate 2 refine Wp.go rfl ?_
      refine Wp.call (if_pos ⟨(hC).1, (hC).2.1, Nat.le_of_ble_eq_true rfl, Nat.le_of_ble_eq_true rfl⟩) cqX0_kindAt (sX0_kindAt (σ := σ) (c := c) hC (hc) hz4 (by omega)) (fun rv1 s1 hq1 => ?_)
      obtain ⟨rfl, hq1⟩ := hq1
      replace hq1 := hq1.symm
      subst hq1
      iterate 4 refine Wp.go rfl ?_
      refine Wp.eqN (a := kA c i) (b := 3) rfl (rfl : _ = nI 3) (by omega) (by omega) (fun (h2 : kA c i = 3) => ?_) (fun (h2 : ¬ kA c i = 3) => ?_)
      · iterate 2 refine Wp.go rfl ?_
        have e1 : foR (etA c) (n + 1) i E = foR (etA c) n (i + 1) E := by show foR (etA c) n (i + 1) (etA c E i) = _; unfold etA; rw [if_neg (by omega)]
        rw [e1]
        refine Wp.lo (lo := [(0, .inr (some a)), (1, .inr (some d)), (2, .inl _), (3, .inl _), (4, .inl _)]) ⟨rfl, rfl, rfl, rfl, rfl, trivial⟩ ?_
        exact ih (i + 1) _ (nE_add hz4 (rfl : _ = nI 1)) (by omega) _ _ (hE) (hc.off (offC.rf) n1) (ho.tr (offC.rf))
      · refine Wp.go rfl ?_
        refine Wp.gN1 hN rfl ?_
        iterate 2 refine Wp.go rfl ?_
        refine Wp.geN (a := E.1) (b := 8) (hE).1 (rfl : _ = nI 8) (by omega) (by omega) (fun (h3 : ¬ E.1 < 8) => ?_) (fun (h3 : E.1 < 8) => ?_)
        · iterate 2 refine Wp.go rfl ?_
          have e1 : foR (etA c) (n + 1) i E = foR (etA c) n (i + 1) E := by show foR (etA c) n (i + 1) (etA c E i) = _; unfold etA; rw [if_neg (by omega)]
          rw [e1]
          refine Wp.lo (lo := [(0, .inr (some a)), (1, .inr (some d)), (2, .inl _), (3, .inl _), (4, .inl _)]) ⟨rfl, rfl, rfl, rfl, rfl, trivial⟩ ?_
          exact ih (i + 1) _ (nE_add hz4 (rfl : _ = nI 1)) (by omega) _ _ (hE) (hc.off (offC.rf) n1) (ho.tr (offC.rf))
        · refine Wp.go rfl ?_
          refine Wp.gN0 hN rfl ?_
          refine Wp.go rfl ?_
          refine Wp.gN1 hN rfl ?_
          refine Wp.go rfl ?_
          refine Wp.stN hN rfl (inE (n := 8) (hE).1 (by omega)) ?_
          iterate 2 refine Wp.go rfl ?_
          refine Wp.gN1 hN rfl ?_
          iterate 2 refine Wp.go rfl ?_
          refine Wp.pN1 hN rfl ?_
          iterate 2 refine Wp.go rfl ?_
          have e1 : foR (etA c) (n + 1) i E = foR (etA c) n (i + 1) (E.1 + 1, va_up E.2 E.1 (kA c i)) := by show foR (etA c) n (i + 1) (etA c E i) = _; unfold etA; rw [if_pos ⟨h2, h3⟩]
          rw [e1]
          refine Wp.lo (lo := [(0, .inr (some a)), (1, .inr (some d)), (2, .inl _), (3, .inl _), (4, .inl _)]) ⟨rfl, rfl, rfl, rfl, rfl, trivial⟩ ?_
          exact ih (i + 1) _ (nE_add hz4 (rfl : _ = nI 1)) (by omega) _ _ (((hE).k (hE).1 (by omega) rfl (by have := kA_lt hc i; omega)).h (nE_add ((hE).k (hE).1 (by omega) rfl (by have := kA_lt hc i; omega)).1 (rfl : _ = nI 1)) (by omega)) (hc.off (((offC.rf).k).h) n1) (ho.tr (((offC.rf).k).h))
set_option maxRecDepth 100000 in
theorem sX2_take {a d : Nat} {c : cS} {E : eS} {σ : mc_G} (hN : isN a) (hE : cEnt a E σ) (hC : isC d) (hc : cCel d c σ) (n1 : apC a d) {z2 z3 : Int32} {f t : Nat} (hf : z2 = nI f) (hft : f ≤ t) (ht : z3 = nI t) (ht14 : t ≤ 14) : Wp miX2_take 0 [(0, .inr (some a)), (1, .inr (some d)), (2, .inl z2), (3, .inl z3)] [] σ (fun rv σ' => rv = none ∧ cEnt a (teA c f t E) σ' ∧ offC a σ σ') := by
  iterate 2 refine Wp.go rfl ?_
  refine Wp.pN1 hN rfl ?_
  iterate 2 refine Wp.go rfl ?_
  have hz := hE.h (v := 0) (q := 0) rfl (by decide)
  have hoz : offC a σ (mc_up σ a 1 0) := offC.rf.h
  refine Wp.lo (lo := [(0, .inr (some a)), (1, .inr (some d)), (2, .inl _), (3, .inl _), (4, .inl _)]) ⟨rfl, rfl, rfl, rfl, rfl, trivial⟩ ?_
  exact lX2_take hN hC n1 ht ht14 (t - f) f _ hf (by omega) _ _ hz (hc.off hoz n1) hoz
set_option maxRecDepth 100000 in
theorem lX2_takeLocals {a d : Nat} (hN : isN a) {z2 : Int32} {l : Nat} (hl : z2 = nI l) (hl8 : l ≤ 8) {σ0 : mc_G} : ∀ (n i : Nat) (x4 : Int32), x4 = nI i → i + n = l → ∀ (E : eS) (σ : mc_G), cEnt a E σ → E.1 = n → offC a σ0 σ → Wp miX2_takeLocals 15 [(0, .inr (some a)), (1, .inr (some d)), (2, .inl z2), (3, .inl x4)] [] σ (fun rv σ' => rv = none ∧ cEnt a (tmA n E) σ' ∧ offC a σ0 σ') := by
  intro n
  induction n with
  | zero =>
    intro i x4 hz4 hin E σ hE hn ho
    iterate 3 refine Wp.go rfl ?_
    refine Wp.geN (a := i) (b := l) hz4 hl (by omega) (by omega) (fun (h1 : ¬ i < l) => ?_) (fun (h1 : i < l) => ?_)
    · refine Wp.ret rfl ?_
      exact ⟨rfl, hE, ho⟩
    · exfalso; omega
  | succ n ih =>
    intro i x4 hz4 hin E σ hE hn ho
    have hh8 := hE.2.1
    have hlt : ekA E (E.1 - 1) < 300 := by unfold ekA; split; exact (hE.2.2 _ (by omega)).2; omega
    iterate 3 refine Wp.go rfl ?_
    refine Wp.geN (a := i) (b := l) hz4 hl (by omega) (by omega) (fun (h1 : ¬ i < l) => ?_) (fun (h1 : i < l) => ?_)
    · refine Wp.ret rfl ?_
      first | (exfalso; omega) | (refine ⟨rfl, ?_, ho⟩; show cEnt a (if E.2 (E.1 - 1) = 0 then tmA n (E.1 - 1, E.2) else E) σ; rw [if_neg (fun q => h2 (by unfold ekA; rw [if_pos (by omega)]; exact q))]; exact hE)
    · iterate 2 refine Wp.go rfl ?_
      refine Wp.gN1 hN rfl ?_
      iterate 2 refine Wp.go rfl ?_
      refine Wp.call (if_pos ⟨(hN).1, (hN).2.1, Nat.le_of_ble_eq_true rfl, Nat.le_of_ble_eq_true rfl⟩) cqX2_kindAt (sX2_kindAt (σ := σ) (E := E) hN (hE) (nE_sub (hE).1 (rfl : _ = nI 1) (by omega)) (by omega)) (fun rv1 s1 hq1 => ?_)
      obtain ⟨rfl, hq1⟩ := hq1
      replace hq1 := hq1.symm
      subst hq1
      refine Wp.go rfl ?_
      refine Wp.neN (a := ekA E (E.1 - 1)) (b := 0) rfl (rfl : _ = nI 0) (by omega) (by omega) (fun (h2 : ¬ ekA E (E.1 - 1) = 0) => ?_) (fun (h2 : ekA E (E.1 - 1) = 0) => ?_)
      · refine Wp.ret rfl ?_
        first | (exfalso; omega) | (refine ⟨rfl, ?_, ho⟩; show cEnt a (if E.2 (E.1 - 1) = 0 then tmA n (E.1 - 1, E.2) else E) σ; rw [if_neg (fun q => h2 (by unfold ekA; rw [if_pos (by omega)]; exact q))]; exact hE)
      · iterate 2 refine Wp.go rfl ?_
        refine Wp.gN1 hN rfl ?_
        iterate 2 refine Wp.go rfl ?_
        refine Wp.pN1 hN rfl ?_
        iterate 2 refine Wp.go rfl ?_
        have e0 : E.2 (E.1 - 1) = 0 := by rw [← h2]; unfold ekA; rw [if_pos (by omega)]
        have e1 : tmA (n + 1) E = tmA n (E.1 - 1, E.2) := by show (if E.2 (E.1 - 1) = 0 then tmA n (E.1 - 1, E.2) else E) = _; rw [if_pos e0]
        rw [e1]
        refine Wp.lo (lo := [(0, .inr (some a)), (1, .inr (some d)), (2, .inl _), (3, .inl _)]) ⟨rfl, rfl, rfl, rfl, trivial⟩ ?_
        exact ih (i + 1) _ (nE_add hz4 (rfl : _ = nI 1)) (by omega) _ _ ((hE).h (nE_sub (hE).1 (rfl : _ = nI 1) (by omega)) (by omega)) (by show E.1 - 1 = n; omega) (ho.tr ((offC.rf).h))
set_option maxRecDepth 100000 in
theorem sX2_takeLocals {a d : Nat} {c : cS} {E : eS} {σ : mc_G} (hN : isN a) (hE : cEnt a E σ) (hC : isC d) (hc : cCel d c σ) (n1 : apC a d) : Wp miX2_takeLocals 0 [(0, .inr (some a)), (1, .inr (some d))] [] σ (fun rv σ' => rv = none ∧ cEnt a (tlA c E) σ' ∧ offC a σ σ') := by
  iterate 4 refine Wp.go rfl ?_
  refine Wp.call (if_pos ⟨(hN).1, (hN).2.1, Nat.le_of_ble_eq_true rfl, Nat.le_of_ble_eq_true rfl⟩) cqX2_take (sX2_take (E := E) hN (hE) hC hc n1 (rfl : _ = nI 0) (by omega) (rfl : _ = nI 8) (by omega)) (fun rv1 s1 hq1 => ?_)
  obtain ⟨rfl, hE1, ho1⟩ := hq1
  refine Wp.go rfl ?_
  refine Wp.gN1 hN rfl ?_
  iterate 3 refine Wp.go rfl ?_
  have h8 := hE1.2.1
  refine Wp.lo (lo := [(0, .inr (some a)), (1, .inr (some d)), (2, .inl _), (3, .inl _)]) ⟨rfl, rfl, rfl, rfl, trivial⟩ ?_
  exact lX2_takeLocals hN (hE1).1 h8 (teA c 0 8 E).1 0 _ (rfl : _ = nI 0) (by omega) _ _ hE1 rfl ho1
set_option maxRecDepth 100000 in
theorem sX2_takePile {a d : Nat} {c : cS} {E : eS} {σ : mc_G} (hN : isN a) (hE : cEnt a E σ) (hC : isC d) (hc : cCel d c σ) (n1 : apC a d) : Wp miX2_takePile 0 [(0, .inr (some a)), (1, .inr (some d))] [] σ (fun rv σ' => rv = none ∧ cEnt a (tqA c E) σ' ∧ offC a σ σ') := by
  have hh6 := hc.2.1
  iterate 5 refine Wp.go rfl ?_
  refine Wp.call (if_pos ⟨(hC).1, (hC).2.1, Nat.le_of_ble_eq_true rfl, Nat.le_of_ble_eq_true rfl⟩) cqX0_height (sX0_height hC hc) (fun rv1 s1 hq1 => ?_)
  obtain ⟨rfl, hq1⟩ := hq1
  replace hq1 := hq1.symm
  subst hq1
  refine Wp.go rfl ?_
  refine Wp.call (if_pos ⟨(hN).1, (hN).2.1, Nat.le_of_ble_eq_true rfl, Nat.le_of_ble_eq_true rfl⟩) cqX2_take (sX2_take (E := E) hN (hE) hC hc n1 (rfl : _ = nI 8) (by omega) (nE_add (rfl : _ = nI 8) rfl) (by omega)) (fun rv2 s2 hq2 => ?_)
  obtain ⟨rfl, hE2, ho2⟩ := hq2
  refine Wp.ret rfl ?_
  exact ⟨rfl, hE2, ho2⟩
theorem bE_and {x y : Int32} {a b : Bool} (hx : x = bI a) (hy : y = bI b) : x &&& y = bI (a && b) := by rw [hx, hy]; cases a <;> cases b <;> rfl
theorem bE_or {x y : Int32} {a b : Bool} (hx : x = bI a) (hy : y = bI b) : x ||| y = bI (a || b) := by rw [hx, hy]; cases a <;> cases b <;> rfl
theorem ekA_lt {a : Nat} {E : eS} {σ : mc_G} (h : cEnt a E σ) (i : Nat) : ekA E i < 300 := by
  have h8 := h.2.1
  unfold ekA; split
  · exact (h.2.2 _ (by omega)).2
  · omega
set_option maxRecDepth 100000 in
theorem lX2_ba {a d : Nat} {E D : eS} {σ : mc_G} (hN : isN a) (hE : cEnt a E σ) (hM : isN d) (hD : cEnt d D σ) : ∀ (n i : Nat) (b : Bool) (x2 x4 : Int32), x4 = nI i → i + n = min E.1 D.1 → x2 = bI b → Wp miX2_beginsAlike 4 [(0, .inr (some a)), (1, .inr (some d)), (2, .inl x2), (3, .inl x4)] [] σ (fun rv σ' => rv = some (.inl (bI (foR (bkS E D) n i b))) ∧ σ' = σ) := by
  have hh8 := hE.2.1
  have hd8 := hD.2.1
  intro n
  induction n with
  | zero =>
    intro i b x2 x4 hz4 hin hb
    iterate 2 refine Wp.go rfl ?_
    refine Wp.gN1 hN rfl ?_
    refine Wp.go rfl ?_
    refine Wp.geN (a := i) (b := E.1) hz4 (hE).1 (by omega) (by omega) (fun (h1 : ¬ i < E.1) => ?_) (fun (h1 : i < E.1) => ?_)
    · refine Wp.go rfl ?_
      refine Wp.ret (if_pos (Or.inr (bE_01 hb))) ?_
      exact ⟨rvB hb rfl, rfl⟩
    · iterate 2 refine Wp.go rfl ?_
      refine Wp.gN1 hM rfl ?_
      refine Wp.go rfl ?_
      refine Wp.geN (a := i) (b := D.1) hz4 (hD).1 (by omega) (by omega) (fun (h2 : ¬ i < D.1) => ?_) (fun (h2 : i < D.1) => ?_)
      · refine Wp.go rfl ?_
        refine Wp.ret (if_pos (Or.inr (bE_01 hb))) ?_
        exact ⟨rvB hb rfl, rfl⟩
      · exfalso; omega
  | succ n ih =>
    intro i b x2 x4 hz4 hin hb
    have hl1 := ekA_lt hE i
    have hl2 := ekA_lt hD i
    iterate 2 refine Wp.go rfl ?_
    refine Wp.gN1 hN rfl ?_
    refine Wp.go rfl ?_
    refine Wp.geN (a := i) (b := E.1) hz4 (hE).1 (by omega) (by omega) (fun (h1 : ¬ i < E.1) => ?_) (fun (h1 : i < E.1) => ?_)
    · refine Wp.go rfl ?_
      refine Wp.ret (if_pos (Or.inr (bE_01 hb))) ?_
      exfalso; omega
    · iterate 2 refine Wp.go rfl ?_
      refine Wp.gN1 hM rfl ?_
      refine Wp.go rfl ?_
      refine Wp.geN (a := i) (b := D.1) hz4 (hD).1 (by omega) (by omega) (fun (h2 : ¬ i < D.1) => ?_) (fun (h2 : i < D.1) => ?_)
      · refine Wp.go rfl ?_
        refine Wp.ret (if_pos (Or.inr (bE_01 hb))) ?_
        exfalso; omega
      · iterate 3 refine Wp.go rfl ?_
        refine Wp.call (if_pos ⟨(hN).1, (hN).2.1, Nat.le_of_ble_eq_true rfl, Nat.le_of_ble_eq_true rfl⟩) cqX2_kindAt (sX2_kindAt (σ := σ) (E := E) hN (hE) hz4 (by omega)) (fun rv1 s1 hq1 => ?_)
        obtain ⟨rfl, hq1⟩ := hq1
        replace hq1 := hq1.symm
        subst hq1
        iterate 2 refine Wp.go rfl ?_
        refine Wp.call (if_pos ⟨(hM).1, (hM).2.1, Nat.le_of_ble_eq_true rfl, Nat.le_of_ble_eq_true rfl⟩) cqX2_kindAt (sX2_kindAt (σ := σ) (E := D) hM (hD) hz4 (by omega)) (fun rv2 s2 hq2 => ?_)
        obtain ⟨rfl, hq2⟩ := hq2
        replace hq2 := hq2.symm
        subst hq2
        refine Wp.go rfl ?_
        refine Wp.neN (a := ekA E i) (b := ekA D i) rfl rfl (by omega) (by omega) (fun (h3 : ¬ ekA E i = ekA D i) => ?_) (fun (h3 : ekA E i = ekA D i) => ?_)
        · iterate 5 refine Wp.go rfl ?_
          have e1 : foR (bkS E D) (n + 1) i b = foR (bkS E D) n (i + 1) (b && false) := by show foR (bkS E D) n (i + 1) (bkS E D b i) = _; unfold bkS; rw [decide_eq_false h3]
          rw [e1]
          refine Wp.lo (lo := [(0, .inr (some a)), (1, .inr (some d)), (2, .inl _), (3, .inl _)]) ⟨rfl, rfl, rfl, rfl, trivial⟩ ?_
          exact ih (i + 1) _ _ _ (nE_add hz4 (rfl : _ = nI 1)) (by omega) (bE_and hb (rfl : _ = bI false))
        · iterate 6 refine Wp.go rfl ?_
          have e1 : foR (bkS E D) (n + 1) i b = foR (bkS E D) n (i + 1) (b && true) := by show foR (bkS E D) n (i + 1) (bkS E D b i) = _; unfold bkS; rw [decide_eq_true h3]
          rw [e1]
          refine Wp.lo (lo := [(0, .inr (some a)), (1, .inr (some d)), (2, .inl _), (3, .inl _)]) ⟨rfl, rfl, rfl, rfl, trivial⟩ ?_
          exact ih (i + 1) _ _ _ (nE_add hz4 (rfl : _ = nI 1)) (by omega) (bE_and hb (rfl : _ = bI true))
set_option maxRecDepth 100000 in
theorem sX2_beginsAlike {a d : Nat} {E D : eS} {σ : mc_G} (hN : isN a) (hE : cEnt a E σ) (hM : isN d) (hD : cEnt d D σ) : Wp miX2_beginsAlike 0 [(0, .inr (some a)), (1, .inr (some d))] [] σ (fun rv σ' => rv = some (.inl (bI (baA E D))) ∧ σ' = σ) := by
  iterate 4 refine Wp.go rfl ?_
  refine Wp.lo (lo := [(0, .inr (some a)), (1, .inr (some d)), (2, .inl _), (3, .inl _)]) ⟨rfl, rfl, rfl, rfl, trivial⟩ ?_
  exact lX2_ba hN hE hM hD _ 0 true _ _ (rfl : _ = nI 0) (by omega) rfl

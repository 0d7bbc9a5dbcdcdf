/-! the bytes -/
abbrev wS : Type := Nat × (Nat → Nat)
def cWri (W : wS) (σ : mc_G) : Prop := σ 154 1 = nI W.1 ∧ W.1 ≤ 960 ∧ ∀ j, j < 960 → σ 155 j = nI (W.2 j)
theorem cWri.k {p q : Nat} {W : wS} {σ : mc_G} {i v : Int32} (h : cWri W σ) (hi : i = nI p) (hp : p < 960) (hv : v = nI q) : cWri (W.1, va_up W.2 p q) (mc_up σ 155 i.toNatClampNeg v) := by
  rw [clE hi (by omega)]
  refine ⟨by rw [mc_upn _ _ _ (by decide)]; exact h.1, h.2.1, fun j hj => ?_⟩
  rw [mc_upa]
  by_cases e : j = p
  · simp [e, va_up, hv]
  · simpa [e, va_up] using h.2.2 j hj
theorem cWri.h {q : Nat} {W : wS} {σ : mc_G} {v : Int32} (h : cWri W σ) (hv : v = nI q) (hq : q ≤ 960) : cWri (q, W.2) (mc_up σ 154 1 v) := by
  refine ⟨by rw [mc_upa]; simpa using hv, hq, fun j hj => ?_⟩
  rw [mc_upn _ _ _ (by decide)]
  exact h.2.2 j hj
theorem cWri.to {W : wS} {σ σ' : mc_G} (h : cWri W σ) (e1 : σ' 154 = σ 154) (e2 : σ' 155 = σ 155) : cWri W σ' := by
  unfold cWri at *; rw [e1, e2]; exact h
def wa1 (W : wS) (v : Nat) : wS := if W.1 < 960 then (W.1 + 1, va_up W.2 W.1 v) else W
def waL (W : wS) (l : List Nat) : wS := l.foldl wa1 W
def kdL (k : Nat) : List Nat := if 200 ≤ k then [8, k - 200] else if 100 ≤ k then [7, k - 100] else [k]
def enS (E : eS) (W : wS) (i : Nat) : wS := waL W (kdL (ekA E i))
def enL (E : eS) (f : Nat) : List Nat := (List.range' f (E.1 - f)).flatMap (fun i => kdL (ekA E i))
theorem waL_app (W : wS) (l m : List Nat) : waL W (l ++ m) = waL (waL W l) m := List.foldl_append ..
theorem waL_en (E : eS) : ∀ (n f : Nat) (W : wS), foR (enS E) n f W = waL W ((List.range' f n).flatMap (fun i => kdL (ekA E i)))
  | 0, f, W => rfl
  | n + 1, f, W => by
    show foR (enS E) n (f + 1) (enS E W f) = _
    rw [waL_en E n (f + 1), List.range'_succ, List.flatMap_cons, waL_app]
    rfl
def w1A (B L Q : eS) (δ : Nat) : List Nat :=
  if (baA L B = true ∧ L.1 = B.1) ∧ Q.1 = 0 then [δ]
  else if (baA L B = true ∧ L.1 = B.1) ∧ Q.1 = 1 then (64 + δ) :: enL Q 0
  else if baA L B = true ∧ Q.1 = 0 ∧ (L.1 - B.1) + (B.1 - L.1) ≤ 3 then (251 + L.1 - B.1) :: δ :: enL L B.1
  else 255 :: δ :: L.1 :: (enL L 0 ++ Q.1 :: enL Q 0)
theorem sub0 {a b : Nat} (ha : a ≤ 8) (hb : b ≤ 8) : (nI a - nI b = nI 0) ↔ a = b := by
  have : ∀ a, a ≤ 8 → ∀ b, b ≤ 8 → ((nI a - nI b = nI 0) ↔ a = b) := by decide
  exact this a ha b hb
theorem absE {x : Int32} {a b : Nat} (ha : a ≤ 8) (hb : b ≤ 8) (hx : x = nI a - nI b) : (if 0 ≤ x then x else 0 - x) = nI ((a - b) + (b - a)) := by
  rw [hx]
  have : ∀ a, a ≤ 8 → ∀ b, b ≤ 8 → (if 0 ≤ nI a - nI b then nI a - nI b else 0 - (nI a - nI b)) = nI ((a - b) + (b - a)) := by decide
  exact this a ha b hb
theorem add251 {x y : Int32} {a b : Nat} (hy : y = nI 251) (ha : a ≤ 8) (hb : b ≤ 8) (hx : x = nI a - nI b) : y + x = nI (251 + a - b) := by
  rw [hx, hy]
  have : ∀ a, a ≤ 8 → ∀ b, b ≤ 8 → nI 251 + (nI a - nI b) = nI (251 + a - b) := by decide
  exact this a ha b hb
set_option maxRecDepth 100000 in
theorem sX10_length {W : wS} {σ : mc_G} (hW : cWri W σ) : Wp miX10_length 0 [(0, .inr (some 154))] [] σ (fun rv σ' => rv = some (.inl (nI (W.1))) ∧ σ' = σ) := by
  have hw := hW.2.1
  iterate 2 refine Wp.go rfl ?_
  refine Wp.ret rfl ?_
  exact ⟨rvN (hW).1 (by rfl), rfl⟩
set_option maxRecDepth 100000 in
theorem sX10_has {W : wS} {σ : mc_G} (hW : cWri W σ) {x : Int32} {p : Nat} (hx : x = nI p) (hp : p < 2 ^ 31) : Wp miX10_has 0 [(0, .inr (some 154)), (1, .inl x)] [] σ (fun rv σ' => rv = some (.inl (bI (decide (p < W.1)))) ∧ σ' = σ) := by
  have hw := hW.2.1
  iterate 2 refine Wp.go rfl ?_
  refine Wp.ltN (a := p) (b := 0) hx (rfl : _ = nI 0) (by omega) (by omega) (fun (h1 : p < 0) => ?_) (fun (h1 : ¬ p < 0) => ?_)
  · refine Wp.go rfl ?_
    refine Wp.ret rfl ?_
    exact ⟨rv0 (by simp; omega), rfl⟩
  · iterate 4 refine Wp.go rfl ?_
    refine Wp.geN (a := p) (b := W.1) hx (hW).1 (by omega) (by omega) (fun (h2 : ¬ p < W.1) => ?_) (fun (h2 : p < W.1) => ?_)
    · refine Wp.go rfl ?_
      refine Wp.ret rfl ?_
      exact ⟨rv0 (by simp; omega), rfl⟩
    · iterate 3 refine Wp.go rfl ?_
      refine Wp.geN (a := p) (b := 960) hx (rfl : _ = nI 960) (by omega) (by omega) (fun (h3 : ¬ p < 960) => ?_) (fun (h3 : p < 960) => ?_)
      · refine Wp.go rfl ?_
        refine Wp.ret rfl ?_
        exact ⟨rv0 (by simp; omega), rfl⟩
      · iterate 2 refine Wp.go rfl ?_
        refine Wp.ret rfl ?_
        exact ⟨rv1 (by simp; omega), rfl⟩
set_option maxRecDepth 100000 in
theorem sX10_has_n {σ : mc_G} {x : Int32} (hx : x < 0) : Wp miX10_has 0 [(0, .inr (some 154)), (1, .inl x)] [] σ (fun rv σ' => rv = some (.inl (bI false)) ∧ σ' = σ) := by
  iterate 2 refine Wp.go rfl ?_
  refine Wp.lt (fun h1 => ?_) (fun h1 => absurd hx h1)
  refine Wp.go rfl ?_
  refine Wp.ret rfl ?_
  exact ⟨rv0 rfl, rfl⟩
set_option maxRecDepth 100000 in
theorem sX10_byteAt {W : wS} {σ : mc_G} (hW : cWri W σ) {x : Int32} {p : Nat} (hx : x = nI p) (hp : p < 2 ^ 31) (hpl : p < W.1) : Wp miX10_byteAt 0 [(0, .inr (some 154)), (1, .inl x)] [] σ (fun rv σ' => rv = some (.inl (nI (W.2 p))) ∧ σ' = σ) := by
  have hw := hW.2.1
  iterate 2 refine Wp.go rfl ?_
  refine Wp.call rfl cqX10_has (sX10_has hW hx hp) (fun rv1 s1 hq1 => ?_)
  obtain ⟨rfl, hq1⟩ := hq1
  replace hq1 := hq1.symm
  subst hq1
  refine Wp.go rfl ?_
  refine Wp.beqD (p := p < W.1) rfl (fun (h1 : ¬ (p < W.1)) => ?_) (fun (h1 : p < W.1) => ?_)
  · refine Wp.go rfl ?_
    refine Wp.ret rfl ?_
    first | exact absurd hpl h1 | exact ⟨rvN (rfl : _ = nI 0) rfl, rfl⟩
  · iterate 3 refine Wp.go rfl ?_
    refine Wp.go (if_pos ⟨rfl, rfl, (inE (n := 960) hx (by omega))⟩) ?_
    refine Wp.go rfl ?_
    refine Wp.ret rfl ?_
    first | exact absurd hpl h1 | exact ⟨rvN (rdE hx (by omega) ((hW).2.2 p (by omega))) rfl, rfl⟩
set_option maxRecDepth 100000 in
theorem sX10_add {W : wS} {σ : mc_G} (hW : cWri W σ) {x : Int32} {p : Nat} (hx : x = nI p) : Wp miX10_add 0 [(0, .inr (some 154)), (1, .inl x)] [] σ (fun rv σ' => rv = none ∧ cWri (wa1 W p) σ' ∧ offC 154 σ σ') := by
  have hw := hW.2.1
  iterate 4 refine Wp.go rfl ?_
  refine Wp.geN (a := W.1) (b := 960) (hW).1 (rfl : _ = nI 960) (by omega) (by omega) (fun (h1 : ¬ W.1 < 960) => ?_) (fun (h1 : W.1 < 960) => ?_)
  · refine Wp.ret rfl ?_
    refine ⟨rfl, ?_, offC.rf⟩
    have hz := hW
    unfold wa1
    first | (rw [if_pos h1]; exact hz) | (rw [if_neg h1]; exact hz)
  · iterate 5 refine Wp.go rfl ?_
    refine Wp.go (if_pos ⟨(show 155 < 187 by decide), rfl, (inE (n := 960) (hW).1 (by omega))⟩) ?_
    iterate 5 refine Wp.go rfl ?_
    refine Wp.go rfl ?_
    refine Wp.ret rfl ?_
    refine ⟨rfl, ?_, ((offC.rf).k).h⟩
    have hz := ((hW).k (hW).1 (by omega) hx).h (nE_add ((hW).k (hW).1 (by omega) hx).1 (rfl : _ = nI 1)) (by first | omega | (show W.1 + 1 ≤ 960; omega))
    unfold wa1
    first | (rw [if_pos h1]; exact hz) | (rw [if_neg h1]; exact hz)
set_option maxRecDepth 100000 in
theorem sX10_addKind {W : wS} {σ : mc_G} (hW : cWri W σ) {x : Int32} {p : Nat} (hx : x = nI p) (hp : p < 300) : Wp miX10_addKind 0 [(0, .inr (some 154)), (1, .inl x)] [] σ (fun rv σ' => rv = none ∧ cWri (waL W (kdL p)) σ' ∧ offC 154 σ σ') := by
  iterate 3 refine Wp.go rfl ?_
  refine Wp.ltN (a := p) (b := 200) hx (rfl : _ = nI 200) (by omega) (by omega) (fun (h1 : p < 200) => ?_) (fun (h1 : ¬ p < 200) => ?_)
  · iterate 3 refine Wp.go rfl ?_
    refine Wp.ltN (a := p) (b := 100) hx (rfl : _ = nI 100) (by omega) (by omega) (fun (h2 : p < 100) => ?_) (fun (h2 : ¬ p < 100) => ?_)
    · iterate 2 refine Wp.go rfl ?_
      refine Wp.call rfl cqX10_add (sX10_add (W := W) (hW) hx) (fun rv1 s1 hq1 => ?_)
      obtain ⟨rfl, hW1, ho1⟩ := hq1
      refine Wp.ret rfl ?_
      refine ⟨rfl, ?_, (offC.rf).tr ho1⟩
      have hz := hW1
      unfold kdL
      first | (rw [if_pos (by omega)]; exact hz) | (rw [if_neg (by omega), if_pos (by omega)]; exact hz) | (rw [if_neg (by omega), if_neg (by omega)]; exact hz)
    · iterate 2 refine Wp.go rfl ?_
      refine Wp.call rfl cqX10_add (sX10_add (W := W) (hW) (rfl : _ = nI 7)) (fun rv2 s2 hq2 => ?_)
      obtain ⟨rfl, hW2, ho2⟩ := hq2
      iterate 4 refine Wp.go rfl ?_
      refine Wp.call rfl cqX10_add (sX10_add (W := (wa1 W 7)) (hW2) (nE_sub hx (rfl : _ = nI 100) (by omega))) (fun rv3 s3 hq3 => ?_)
      obtain ⟨rfl, hW3, ho3⟩ := hq3
      refine Wp.go rfl ?_
      refine Wp.ret rfl ?_
      refine ⟨rfl, ?_, ((offC.rf).tr ho2).tr ho3⟩
      have hz := hW3
      unfold kdL
      first | (rw [if_pos (by omega)]; exact hz) | (rw [if_neg (by omega), if_pos (by omega)]; exact hz) | (rw [if_neg (by omega), if_neg (by omega)]; exact hz)
  · iterate 2 refine Wp.go rfl ?_
    refine Wp.call rfl cqX10_add (sX10_add (W := W) (hW) (rfl : _ = nI 8)) (fun rv4 s4 hq4 => ?_)
    obtain ⟨rfl, hW4, ho4⟩ := hq4
    iterate 4 refine Wp.go rfl ?_
    refine Wp.call rfl cqX10_add (sX10_add (W := (wa1 W 8)) (hW4) (nE_sub hx (rfl : _ = nI 200) (by omega))) (fun rv5 s5 hq5 => ?_)
    obtain ⟨rfl, hW5, ho5⟩ := hq5
    refine Wp.go rfl ?_
    refine Wp.ret rfl ?_
    refine ⟨rfl, ?_, ((offC.rf).tr ho4).tr ho5⟩
    have hz := hW5
    unfold kdL
    first | (rw [if_pos (by omega)]; exact hz) | (rw [if_neg (by omega), if_pos (by omega)]; exact hz) | (rw [if_neg (by omega), if_neg (by omega)]; exact hz)
set_option maxRecDepth 100000 in
theorem lX10_ae {d : Nat} {E : eS} (hN : isN d) (n1 : apC 154 d) {z2 : Int32} {σ0 : mc_G} : ∀ (n i : Nat) (x4 : Int32), x4 = nI i → (i + n = E.1 ∨ (E.1 ≤ i ∧ n = 0 ∧ i ≤ 8)) → ∀ (W : wS) (σ : mc_G), cWri W σ → cEnt d E σ → offC 154 σ0 σ → Wp miX10_addEntries 2 [(0, .inr (some 154)), (1, .inr (some d)), (2, .inl (z2)), (3, .inl x4)] [] σ (fun rv σ' => rv = none ∧ cWri (foR (enS E) n i W) σ' ∧ offC 154 σ0 σ') := by
  intro n
  induction n with
  | zero =>
    intro i x4 hz4 hin W σ hW hE ho
    have he8 := hE.2.1
    iterate 2 refine Wp.go rfl ?_
    refine Wp.call (if_pos ⟨(hN).1, (hN).2.1, Nat.le_of_ble_eq_true rfl, Nat.le_of_ble_eq_true rfl⟩) cqX2_count (sX2_count hN (hE)) (fun rv1 s1 hq1 => ?_)
    obtain ⟨rfl, hq1⟩ := hq1
    replace hq1 := hq1.symm
    subst hq1
    refine Wp.go rfl ?_
    refine Wp.geN (a := i) (b := E.1) hz4 rfl (by omega) (by omega) (fun (h1 : ¬ i < E.1) => ?_) (fun (h1 : i < E.1) => ?_)
    · refine Wp.ret rfl ?_
      exact ⟨rfl, hW, ho⟩
    · exfalso; omega
  | succ n ih =>
    intro i x4 hz4 hin W σ hW hE ho
    have he8 := hE.2.1
    iterate 2 refine Wp.go rfl ?_
    refine Wp.call (if_pos ⟨(hN).1, (hN).2.1, Nat.le_of_ble_eq_true rfl, Nat.le_of_ble_eq_true rfl⟩) cqX2_count (sX2_count hN (hE)) (fun rv1 s1 hq1 => ?_)
    obtain ⟨rfl, hq1⟩ := hq1
    replace hq1 := hq1.symm
    subst hq1
    refine Wp.go rfl ?_
    refine Wp.geN (a := i) (b := E.1) hz4 rfl (by omega) (by omega) (fun (h1 : ¬ i < E.1) => ?_) (fun (h1 : i < E.1) => ?_)
    · refine Wp.ret rfl ?_
      exfalso; omega
    · iterate 3 refine Wp.go rfl ?_
      refine Wp.call (if_pos ⟨(hN).1, (hN).2.1, Nat.le_of_ble_eq_true rfl, Nat.le_of_ble_eq_true rfl⟩) cqX2_kindAt (sX2_kindAt hN (hE) hz4 (by omega)) (fun rv2 s2 hq2 => ?_)
      obtain ⟨rfl, hq2⟩ := hq2
      replace hq2 := hq2.symm
      subst hq2
      refine Wp.call rfl cqX10_addKind (sX10_addKind (W := W) (hW) rfl (ekA_lt hE i)) (fun rv3 s3 hq3 => ?_)
      obtain ⟨rfl, hW3, ho3⟩ := hq3
      iterate 2 refine Wp.go rfl ?_
      have e1 : foR (enS E) (n + 1) i W = foR (enS E) n (i + 1) (waL W (kdL (ekA E i))) := rfl
      rw [e1]
      refine Wp.lo (lo := [(0, .inr (some 154)), (1, .inr (some d)), (2, .inl _), (3, .inl _)]) ⟨rfl, rfl, rfl, rfl, trivial⟩ ?_
      exact ih (i + 1) _ (nE_add hz4 (rfl : _ = nI 1)) (by omega) _ _ (hW3) (hE.off ((offC.rf).tr ho3) n1) (ho.tr ((offC.rf).tr ho3))
theorem sX10_addEntries {W : wS} {σ : mc_G} (hW : cWri W σ) {d : Nat} {E : eS} (hN : isN d) (hE : cEnt d E σ) (n1 : apC 154 d) {z2 : Int32} {f : Nat} (hf : z2 = nI f) (hf8 : f ≤ 8) : Wp miX10_addEntries 0 [(0, .inr (some 154)), (1, .inr (some d)), (2, .inl z2)] [] σ (fun rv σ' => rv = none ∧ cWri (waL W (enL E f)) σ' ∧ offC 154 σ σ') := by
  unfold enL
  rw [← waL_en]
  iterate 2 refine Wp.go rfl ?_
  refine Wp.lo (lo := [(0, .inr (some 154)), (1, .inr (some d)), (2, .inl _), (3, .inl _)]) ⟨rfl, rfl, rfl, rfl, trivial⟩ ?_
  exact lX10_ae hN n1 (E.1 - f) f _ hf (by have := hE.2.1; omega) _ _ hW hE offC.rf
set_option maxRecDepth 100000 in
theorem sX10_writeOne {W : wS} {σ : mc_G} (hW : cWri W σ) {B L Q : eS} (hB : cEnt 156 B σ) (hL : cEnt 158 L σ) (hQ : cEnt 160 Q σ) {x : Int32} {δ : Nat} (hx : x = nI δ) : Wp miX10_writeOne 0 [(0, .inr (some 154)), (1, .inl x)] [] σ (fun rv σ' => rv = none ∧ cWri (waL W (w1A B L Q δ)) σ' ∧ offC 154 σ σ') := by
  have h8B := hB.2.1
  have h8L := hL.2.1
  have h8Q := hQ.2.1
  iterate 2 refine Wp.go rfl ?_
  refine Wp.call rfl cqX2_count (sX2_count isN_158 (hL)) (fun rv1 s1 hq1 => ?_)
  obtain ⟨rfl, hq1⟩ := hq1
  replace hq1 := hq1.symm
  subst hq1
  iterate 2 refine Wp.go rfl ?_
  refine Wp.call rfl cqX2_count (sX2_count isN_156 (hB)) (fun rv2 s2 hq2 => ?_)
  obtain ⟨rfl, hq2⟩ := hq2
  replace hq2 := hq2.symm
  subst hq2
  iterate 6 refine Wp.go rfl ?_
  refine Wp.call rfl cqX2_beginsAlike (sX2_beginsAlike isN_158 (hL) isN_156 (hB)) (fun rv3 s3 hq3 => ?_)
  obtain ⟨rfl, hq3⟩ := hq3
  replace hq3 := hq3.symm
  subst hq3
  iterate 3 refine Wp.go rfl ?_
  refine Wp.beqE rfl (fun (h1 : (baA L B) = false) => ?_) (fun (h1 : (baA L B) = true) => ?_)
  · iterate 4 refine Wp.go rfl ?_
    refine Wp.eqN (a := 0) (b := 0) (rfl : _ = nI 0) (rfl : _ = nI 0) (by decide) (by decide) (fun _ => ?_) (fun q => absurd q (by decide))
    iterate 2 refine Wp.go rfl ?_
    refine Wp.eqN (a := 0) (b := 0) (rfl : _ = nI 0) (rfl : _ = nI 0) (by decide) (by decide) (fun _ => ?_) (fun q => absurd q (by decide))
    iterate 2 refine Wp.go rfl ?_
    refine Wp.beqE rfl (fun (h4 : (baA L B) = false) => ?_) (fun (h4 : (baA L B) = true) => ?_)
    · iterate 2 refine Wp.go rfl ?_
      refine Wp.call rfl cqX10_add (sX10_add (W := W) (hW) (rfl : _ = nI 255)) (fun rv4 s4 hq4 => ?_)
      obtain ⟨rfl, hW4, ho4⟩ := hq4
      iterate 2 refine Wp.go rfl ?_
      refine Wp.call rfl cqX10_add (sX10_add (W := (wa1 W 255)) (hW4) hx) (fun rv5 s5 hq5 => ?_)
      obtain ⟨rfl, hW5, ho5⟩ := hq5
      iterate 3 refine Wp.go rfl ?_
      refine Wp.call rfl cqX2_count (sX2_count isN_158 (hL.off (((offC.rf).tr ho4).tr ho5) ⟨by decide, by decide, by decide⟩)) (fun rv6 s6 hq6 => ?_)
      obtain ⟨rfl, hq6⟩ := hq6
      replace hq6 := hq6.symm
      subst hq6
      refine Wp.call rfl cqX10_add (sX10_add (W := (wa1 (wa1 W 255) δ)) (hW5) rfl) (fun rv7 s7 hq7 => ?_)
      obtain ⟨rfl, hW7, ho7⟩ := hq7
      iterate 4 refine Wp.go rfl ?_
      refine Wp.call rfl cqX10_addEntries (sX10_addEntries (W := (wa1 (wa1 (wa1 W 255) δ) L.1)) (hW7) isN_158 (hL.off ((((offC.rf).tr ho4).tr ho5).tr ho7) ⟨by decide, by decide, by decide⟩) ⟨by decide, by decide, by decide⟩ (rfl : _ = nI 0) (by omega)) (fun rv8 s8 hq8 => ?_)
      obtain ⟨rfl, hW8, ho8⟩ := hq8
      iterate 3 refine Wp.go rfl ?_
      refine Wp.call rfl cqX2_count (sX2_count isN_160 (hQ.off (((((offC.rf).tr ho4).tr ho5).tr ho7).tr ho8) ⟨by decide, by decide, by decide⟩)) (fun rv9 s9 hq9 => ?_)
      obtain ⟨rfl, hq9⟩ := hq9
      replace hq9 := hq9.symm
      subst hq9
      refine Wp.call rfl cqX10_add (sX10_add (W := (waL (wa1 (wa1 (wa1 W 255) δ) L.1) (enL L 0))) (hW8) rfl) (fun rv10 s10 hq10 => ?_)
      obtain ⟨rfl, hW10, ho10⟩ := hq10
      iterate 4 refine Wp.go rfl ?_
      refine Wp.call rfl cqX10_addEntries (sX10_addEntries (W := (wa1 (waL (wa1 (wa1 (wa1 W 255) δ) L.1) (enL L 0)) Q.1)) (hW10) isN_160 (hQ.off ((((((offC.rf).tr ho4).tr ho5).tr ho7).tr ho8).tr ho10) ⟨by decide, by decide, by decide⟩) ⟨by decide, by decide, by decide⟩ (rfl : _ = nI 0) (by omega)) (fun rv11 s11 hq11 => ?_)
      obtain ⟨rfl, hW11, ho11⟩ := hq11
      refine Wp.ret rfl ?_
      refine ⟨rfl, ?_, ((((((offC.rf).tr ho4).tr ho5).tr ho7).tr ho8).tr ho10).tr ho11⟩
      have hz := hW11
      unfold w1A
      rw [if_neg (by first | omega | (intro q; simp_all; done)), if_neg (by first | omega | (intro q; simp_all; done)), if_neg (by first | (intro q; omega) | (intro q; simp_all; done))]
      have hz2 := hz
      rw [show ((255 :: δ :: L.1 :: (enL L 0 ++ Q.1 :: enL Q 0)) : List Nat) = [255, δ, L.1] ++ (enL L 0 ++ ([Q.1] ++ enL Q 0)) from rfl, waL_app, waL_app, waL_app]
      exact hz2
    · iterate 2 refine Wp.go rfl ?_
      refine Wp.call rfl cqX2_count (sX2_count isN_160 (hQ)) (fun rv12 s12 hq12 => ?_)
      obtain ⟨rfl, hq12⟩ := hq12
      replace hq12 := hq12.symm
      subst hq12
      refine Wp.go rfl ?_
      refine Wp.neN (a := Q.1) (b := 0) rfl (rfl : _ = nI 0) (by omega) (by omega) (fun (h5 : ¬ Q.1 = 0) => ?_) (fun (h5 : Q.1 = 0) => ?_)
      · iterate 2 refine Wp.go rfl ?_
        refine Wp.call rfl cqX10_add (sX10_add (W := W) (hW) (rfl : _ = nI 255)) (fun rv13 s13 hq13 => ?_)
        obtain ⟨rfl, hW13, ho13⟩ := hq13
        iterate 2 refine Wp.go rfl ?_
        refine Wp.call rfl cqX10_add (sX10_add (W := (wa1 W 255)) (hW13) hx) (fun rv14 s14 hq14 => ?_)
        obtain ⟨rfl, hW14, ho14⟩ := hq14
        iterate 3 refine Wp.go rfl ?_
        refine Wp.call rfl cqX2_count (sX2_count isN_158 (hL.off (((offC.rf).tr ho13).tr ho14) ⟨by decide, by decide, by decide⟩)) (fun rv15 s15 hq15 => ?_)
        obtain ⟨rfl, hq15⟩ := hq15
        replace hq15 := hq15.symm
        subst hq15
        refine Wp.call rfl cqX10_add (sX10_add (W := (wa1 (wa1 W 255) δ)) (hW14) rfl) (fun rv16 s16 hq16 => ?_)
        obtain ⟨rfl, hW16, ho16⟩ := hq16
        iterate 4 refine Wp.go rfl ?_
        refine Wp.call rfl cqX10_addEntries (sX10_addEntries (W := (wa1 (wa1 (wa1 W 255) δ) L.1)) (hW16) isN_158 (hL.off ((((offC.rf).tr ho13).tr ho14).tr ho16) ⟨by decide, by decide, by decide⟩) ⟨by decide, by decide, by decide⟩ (rfl : _ = nI 0) (by omega)) (fun rv17 s17 hq17 => ?_)
        obtain ⟨rfl, hW17, ho17⟩ := hq17
        iterate 3 refine Wp.go rfl ?_
        refine Wp.call rfl cqX2_count (sX2_count isN_160 (hQ.off (((((offC.rf).tr ho13).tr ho14).tr ho16).tr ho17) ⟨by decide, by decide, by decide⟩)) (fun rv18 s18 hq18 => ?_)
        obtain ⟨rfl, hq18⟩ := hq18
        replace hq18 := hq18.symm
        subst hq18
        refine Wp.call rfl cqX10_add (sX10_add (W := (waL (wa1 (wa1 (wa1 W 255) δ) L.1) (enL L 0))) (hW17) rfl) (fun rv19 s19 hq19 => ?_)
        obtain ⟨rfl, hW19, ho19⟩ := hq19
        iterate 4 refine Wp.go rfl ?_
        refine Wp.call rfl cqX10_addEntries (sX10_addEntries (W := (wa1 (waL (wa1 (wa1 (wa1 W 255) δ) L.1) (enL L 0)) Q.1)) (hW19) isN_160 (hQ.off ((((((offC.rf).tr ho13).tr ho14).tr ho16).tr ho17).tr ho19) ⟨by decide, by decide, by decide⟩) ⟨by decide, by decide, by decide⟩ (rfl : _ = nI 0) (by omega)) (fun rv20 s20 hq20 => ?_)
        obtain ⟨rfl, hW20, ho20⟩ := hq20
        refine Wp.ret rfl ?_
        refine ⟨rfl, ?_, ((((((offC.rf).tr ho13).tr ho14).tr ho16).tr ho17).tr ho19).tr ho20⟩
        have hz := hW20
        unfold w1A
        rw [if_neg (by first | omega | (intro q; simp_all; done)), if_neg (by first | omega | (intro q; simp_all; done)), if_neg (by first | (intro q; omega) | (intro q; simp_all; done))]
        have hz2 := hz
        rw [show ((255 :: δ :: L.1 :: (enL L 0 ++ Q.1 :: enL Q 0)) : List Nat) = [255, δ, L.1] ++ (enL L 0 ++ ([Q.1] ++ enL Q 0)) from rfl, waL_app, waL_app, waL_app]
        exact hz2
      · iterate 2 refine Wp.go rfl ?_
        iterate 2 refine Wp.go rfl ?_
        refine Wp.gtN (a := (L.1 - B.1) + (B.1 - L.1)) (b := 3) (absE h8L h8B (iE_sub rfl rfl)) (rfl : _ = nI 3) (by omega) (by omega) (fun (h6 : 3 < (L.1 - B.1) + (B.1 - L.1)) => ?_) (fun (h6 : ¬ 3 < (L.1 - B.1) + (B.1 - L.1)) => ?_)
        · iterate 2 refine Wp.go rfl ?_
          refine Wp.call rfl cqX10_add (sX10_add (W := W) (hW) (rfl : _ = nI 255)) (fun rv21 s21 hq21 => ?_)
          obtain ⟨rfl, hW21, ho21⟩ := hq21
          iterate 2 refine Wp.go rfl ?_
          refine Wp.call rfl cqX10_add (sX10_add (W := (wa1 W 255)) (hW21) hx) (fun rv22 s22 hq22 => ?_)
          obtain ⟨rfl, hW22, ho22⟩ := hq22
          iterate 3 refine Wp.go rfl ?_
          refine Wp.call rfl cqX2_count (sX2_count isN_158 (hL.off (((offC.rf).tr ho21).tr ho22) ⟨by decide, by decide, by decide⟩)) (fun rv23 s23 hq23 => ?_)
          obtain ⟨rfl, hq23⟩ := hq23
          replace hq23 := hq23.symm
          subst hq23
          refine Wp.call rfl cqX10_add (sX10_add (W := (wa1 (wa1 W 255) δ)) (hW22) rfl) (fun rv24 s24 hq24 => ?_)
          obtain ⟨rfl, hW24, ho24⟩ := hq24
          iterate 4 refine Wp.go rfl ?_
          refine Wp.call rfl cqX10_addEntries (sX10_addEntries (W := (wa1 (wa1 (wa1 W 255) δ) L.1)) (hW24) isN_158 (hL.off ((((offC.rf).tr ho21).tr ho22).tr ho24) ⟨by decide, by decide, by decide⟩) ⟨by decide, by decide, by decide⟩ (rfl : _ = nI 0) (by omega)) (fun rv25 s25 hq25 => ?_)
          obtain ⟨rfl, hW25, ho25⟩ := hq25
          iterate 3 refine Wp.go rfl ?_
          refine Wp.call rfl cqX2_count (sX2_count isN_160 (hQ.off (((((offC.rf).tr ho21).tr ho22).tr ho24).tr ho25) ⟨by decide, by decide, by decide⟩)) (fun rv26 s26 hq26 => ?_)
          obtain ⟨rfl, hq26⟩ := hq26
          replace hq26 := hq26.symm
          subst hq26
          refine Wp.call rfl cqX10_add (sX10_add (W := (waL (wa1 (wa1 (wa1 W 255) δ) L.1) (enL L 0))) (hW25) rfl) (fun rv27 s27 hq27 => ?_)
          obtain ⟨rfl, hW27, ho27⟩ := hq27
          iterate 4 refine Wp.go rfl ?_
          refine Wp.call rfl cqX10_addEntries (sX10_addEntries (W := (wa1 (waL (wa1 (wa1 (wa1 W 255) δ) L.1) (enL L 0)) Q.1)) (hW27) isN_160 (hQ.off ((((((offC.rf).tr ho21).tr ho22).tr ho24).tr ho25).tr ho27) ⟨by decide, by decide, by decide⟩) ⟨by decide, by decide, by decide⟩ (rfl : _ = nI 0) (by omega)) (fun rv28 s28 hq28 => ?_)
          obtain ⟨rfl, hW28, ho28⟩ := hq28
          refine Wp.ret rfl ?_
          refine ⟨rfl, ?_, ((((((offC.rf).tr ho21).tr ho22).tr ho24).tr ho25).tr ho27).tr ho28⟩
          have hz := hW28
          unfold w1A
          rw [if_neg (by first | omega | (intro q; simp_all; done)), if_neg (by first | omega | (intro q; simp_all; done)), if_neg (by first | (intro q; omega) | (intro q; simp_all; done))]
          have hz2 := hz
          rw [show ((255 :: δ :: L.1 :: (enL L 0 ++ Q.1 :: enL Q 0)) : List Nat) = [255, δ, L.1] ++ (enL L 0 ++ ([Q.1] ++ enL Q 0)) from rfl, waL_app, waL_app, waL_app]
          exact hz2
        · iterate 4 refine Wp.go rfl ?_
          refine Wp.call rfl cqX10_add (sX10_add (W := W) (hW) (add251 (rfl : _ = nI 251) h8L h8B (iE_sub rfl rfl))) (fun rv29 s29 hq29 => ?_)
          obtain ⟨rfl, hW29, ho29⟩ := hq29
          iterate 2 refine Wp.go rfl ?_
          refine Wp.call rfl cqX10_add (sX10_add (W := (wa1 W (251 + L.1 - B.1))) (hW29) hx) (fun rv30 s30 hq30 => ?_)
          obtain ⟨rfl, hW30, ho30⟩ := hq30
          iterate 5 refine Wp.go rfl ?_
          refine Wp.call rfl cqX2_count (sX2_count isN_156 (hB.off (((offC.rf).tr ho29).tr ho30) ⟨by decide, by decide, by decide⟩)) (fun rv31 s31 hq31 => ?_)
          obtain ⟨rfl, hq31⟩ := hq31
          replace hq31 := hq31.symm
          subst hq31
          refine Wp.call rfl cqX10_addEntries (sX10_addEntries (W := (wa1 (wa1 W (251 + L.1 - B.1)) δ)) (hW30) isN_158 (hL.off (((offC.rf).tr ho29).tr ho30) ⟨by decide, by decide, by decide⟩) ⟨by decide, by decide, by decide⟩ rfl (by omega)) (fun rv32 s32 hq32 => ?_)
          obtain ⟨rfl, hW32, ho32⟩ := hq32
          refine Wp.go rfl ?_
          refine Wp.ret rfl ?_
          refine ⟨rfl, ?_, (((offC.rf).tr ho29).tr ho30).tr ho32⟩
          have hz := hW32
          unfold w1A
          rw [if_neg (by first | omega | simp_all), if_neg (by first | omega | simp_all), if_pos (by first | (exact ⟨by assumption, by assumption, by omega⟩) | simp_all)]
          exact hz
  · iterate 2 refine Wp.go rfl ?_
    refine Wp.neI (iE_sub rfl rfl) (rfl : _ = nI 0) (fun (h7 : ¬ nI L.1 - nI B.1 = nI 0) => ?_) (fun (h7 : nI L.1 - nI B.1 = nI 0) => ?_)
    · iterate 4 refine Wp.go rfl ?_
      refine Wp.eqN (a := 0) (b := 0) (rfl : _ = nI 0) (rfl : _ = nI 0) (by decide) (by decide) (fun _ => ?_) (fun q => absurd q (by decide))
      iterate 2 refine Wp.go rfl ?_
      refine Wp.eqN (a := 0) (b := 0) (rfl : _ = nI 0) (rfl : _ = nI 0) (by decide) (by decide) (fun _ => ?_) (fun q => absurd q (by decide))
      iterate 2 refine Wp.go rfl ?_
      refine Wp.beqE rfl (fun (h10 : (baA L B) = false) => ?_) (fun (h10 : (baA L B) = true) => ?_)
      · iterate 2 refine Wp.go rfl ?_
        refine Wp.call rfl cqX10_add (sX10_add (W := W) (hW) (rfl : _ = nI 255)) (fun rv33 s33 hq33 => ?_)
        obtain ⟨rfl, hW33, ho33⟩ := hq33
        iterate 2 refine Wp.go rfl ?_
        refine Wp.call rfl cqX10_add (sX10_add (W := (wa1 W 255)) (hW33) hx) (fun rv34 s34 hq34 => ?_)
        obtain ⟨rfl, hW34, ho34⟩ := hq34
        iterate 3 refine Wp.go rfl ?_
        refine Wp.call rfl cqX2_count (sX2_count isN_158 (hL.off (((offC.rf).tr ho33).tr ho34) ⟨by decide, by decide, by decide⟩)) (fun rv35 s35 hq35 => ?_)
        obtain ⟨rfl, hq35⟩ := hq35
        replace hq35 := hq35.symm
        subst hq35
        refine Wp.call rfl cqX10_add (sX10_add (W := (wa1 (wa1 W 255) δ)) (hW34) rfl) (fun rv36 s36 hq36 => ?_)
        obtain ⟨rfl, hW36, ho36⟩ := hq36
        iterate 4 refine Wp.go rfl ?_
        refine Wp.call rfl cqX10_addEntries (sX10_addEntries (W := (wa1 (wa1 (wa1 W 255) δ) L.1)) (hW36) isN_158 (hL.off ((((offC.rf).tr ho33).tr ho34).tr ho36) ⟨by decide, by decide, by decide⟩) ⟨by decide, by decide, by decide⟩ (rfl : _ = nI 0) (by omega)) (fun rv37 s37 hq37 => ?_)
        obtain ⟨rfl, hW37, ho37⟩ := hq37
        iterate 3 refine Wp.go rfl ?_
        refine Wp.call rfl cqX2_count (sX2_count isN_160 (hQ.off (((((offC.rf).tr ho33).tr ho34).tr ho36).tr ho37) ⟨by decide, by decide, by decide⟩)) (fun rv38 s38 hq38 => ?_)
        obtain ⟨rfl, hq38⟩ := hq38
        replace hq38 := hq38.symm
        subst hq38
        refine Wp.call rfl cqX10_add (sX10_add (W := (waL (wa1 (wa1 (wa1 W 255) δ) L.1) (enL L 0))) (hW37) rfl) (fun rv39 s39 hq39 => ?_)
        obtain ⟨rfl, hW39, ho39⟩ := hq39
        iterate 4 refine Wp.go rfl ?_
        refine Wp.call rfl cqX10_addEntries (sX10_addEntries (W := (wa1 (waL (wa1 (wa1 (wa1 W 255) δ) L.1) (enL L 0)) Q.1)) (hW39) isN_160 (hQ.off ((((((offC.rf).tr ho33).tr ho34).tr ho36).tr ho37).tr ho39) ⟨by decide, by decide, by decide⟩) ⟨by decide, by decide, by decide⟩ (rfl : _ = nI 0) (by omega)) (fun rv40 s40 hq40 => ?_)
        obtain ⟨rfl, hW40, ho40⟩ := hq40
        refine Wp.ret rfl ?_
        refine ⟨rfl, ?_, ((((((offC.rf).tr ho33).tr ho34).tr ho36).tr ho37).tr ho39).tr ho40⟩
        have eh7 : ¬ L.1 = B.1 := fun q => h7 ((sub0 h8L h8B).mpr q)
        have hz := hW40
        unfold w1A
        rw [if_neg (by first | omega | (intro q; simp_all; done)), if_neg (by first | omega | (intro q; simp_all; done)), if_neg (by first | (intro q; omega) | (intro q; simp_all; done))]
        have hz2 := hz
        rw [show ((255 :: δ :: L.1 :: (enL L 0 ++ Q.1 :: enL Q 0)) : List Nat) = [255, δ, L.1] ++ (enL L 0 ++ ([Q.1] ++ enL Q 0)) from rfl, waL_app, waL_app, waL_app]
        exact hz2
      · iterate 2 refine Wp.go rfl ?_
        refine Wp.call rfl cqX2_count (sX2_count isN_160 (hQ)) (fun rv41 s41 hq41 => ?_)
        obtain ⟨rfl, hq41⟩ := hq41
        replace hq41 := hq41.symm
        subst hq41
        refine Wp.go rfl ?_
        refine Wp.neN (a := Q.1) (b := 0) rfl (rfl : _ = nI 0) (by omega) (by omega) (fun (h11 : ¬ Q.1 = 0) => ?_) (fun (h11 : Q.1 = 0) => ?_)
        · iterate 2 refine Wp.go rfl ?_
          refine Wp.call rfl cqX10_add (sX10_add (W := W) (hW) (rfl : _ = nI 255)) (fun rv42 s42 hq42 => ?_)
          obtain ⟨rfl, hW42, ho42⟩ := hq42
          iterate 2 refine Wp.go rfl ?_
          refine Wp.call rfl cqX10_add (sX10_add (W := (wa1 W 255)) (hW42) hx) (fun rv43 s43 hq43 => ?_)
          obtain ⟨rfl, hW43, ho43⟩ := hq43
          iterate 3 refine Wp.go rfl ?_
          refine Wp.call rfl cqX2_count (sX2_count isN_158 (hL.off (((offC.rf).tr ho42).tr ho43) ⟨by decide, by decide, by decide⟩)) (fun rv44 s44 hq44 => ?_)
          obtain ⟨rfl, hq44⟩ := hq44
          replace hq44 := hq44.symm
          subst hq44
          refine Wp.call rfl cqX10_add (sX10_add (W := (wa1 (wa1 W 255) δ)) (hW43) rfl) (fun rv45 s45 hq45 => ?_)
          obtain ⟨rfl, hW45, ho45⟩ := hq45
          iterate 4 refine Wp.go rfl ?_
          refine Wp.call rfl cqX10_addEntries (sX10_addEntries (W := (wa1 (wa1 (wa1 W 255) δ) L.1)) (hW45) isN_158 (hL.off ((((offC.rf).tr ho42).tr ho43).tr ho45) ⟨by decide, by decide, by decide⟩) ⟨by decide, by decide, by decide⟩ (rfl : _ = nI 0) (by omega)) (fun rv46 s46 hq46 => ?_)
          obtain ⟨rfl, hW46, ho46⟩ := hq46
          iterate 3 refine Wp.go rfl ?_
          refine Wp.call rfl cqX2_count (sX2_count isN_160 (hQ.off (((((offC.rf).tr ho42).tr ho43).tr ho45).tr ho46) ⟨by decide, by decide, by decide⟩)) (fun rv47 s47 hq47 => ?_)
          obtain ⟨rfl, hq47⟩ := hq47
          replace hq47 := hq47.symm
          subst hq47
          refine Wp.call rfl cqX10_add (sX10_add (W := (waL (wa1 (wa1 (wa1 W 255) δ) L.1) (enL L 0))) (hW46) rfl) (fun rv48 s48 hq48 => ?_)
          obtain ⟨rfl, hW48, ho48⟩ := hq48
          iterate 4 refine Wp.go rfl ?_
          refine Wp.call rfl cqX10_addEntries (sX10_addEntries (W := (wa1 (waL (wa1 (wa1 (wa1 W 255) δ) L.1) (enL L 0)) Q.1)) (hW48) isN_160 (hQ.off ((((((offC.rf).tr ho42).tr ho43).tr ho45).tr ho46).tr ho48) ⟨by decide, by decide, by decide⟩) ⟨by decide, by decide, by decide⟩ (rfl : _ = nI 0) (by omega)) (fun rv49 s49 hq49 => ?_)
          obtain ⟨rfl, hW49, ho49⟩ := hq49
          refine Wp.ret rfl ?_
          refine ⟨rfl, ?_, ((((((offC.rf).tr ho42).tr ho43).tr ho45).tr ho46).tr ho48).tr ho49⟩
          have eh7 : ¬ L.1 = B.1 := fun q => h7 ((sub0 h8L h8B).mpr q)
          have hz := hW49
          unfold w1A
          rw [if_neg (by first | omega | (intro q; simp_all; done)), if_neg (by first | omega | (intro q; simp_all; done)), if_neg (by first | (intro q; omega) | (intro q; simp_all; done))]
          have hz2 := hz
          rw [show ((255 :: δ :: L.1 :: (enL L 0 ++ Q.1 :: enL Q 0)) : List Nat) = [255, δ, L.1] ++ (enL L 0 ++ ([Q.1] ++ enL Q 0)) from rfl, waL_app, waL_app, waL_app]
          exact hz2
        · iterate 2 refine Wp.go rfl ?_
          iterate 2 refine Wp.go rfl ?_
          refine Wp.gtN (a := (L.1 - B.1) + (B.1 - L.1)) (b := 3) (absE h8L h8B (iE_sub rfl rfl)) (rfl : _ = nI 3) (by omega) (by omega) (fun (h12 : 3 < (L.1 - B.1) + (B.1 - L.1)) => ?_) (fun (h12 : ¬ 3 < (L.1 - B.1) + (B.1 - L.1)) => ?_)
          · iterate 2 refine Wp.go rfl ?_
            refine Wp.call rfl cqX10_add (sX10_add (W := W) (hW) (rfl : _ = nI 255)) (fun rv50 s50 hq50 => ?_)
            obtain ⟨rfl, hW50, ho50⟩ := hq50
            iterate 2 refine Wp.go rfl ?_
            refine Wp.call rfl cqX10_add (sX10_add (W := (wa1 W 255)) (hW50) hx) (fun rv51 s51 hq51 => ?_)
            obtain ⟨rfl, hW51, ho51⟩ := hq51
            iterate 3 refine Wp.go rfl ?_
            refine Wp.call rfl cqX2_count (sX2_count isN_158 (hL.off (((offC.rf).tr ho50).tr ho51) ⟨by decide, by decide, by decide⟩)) (fun rv52 s52 hq52 => ?_)
            obtain ⟨rfl, hq52⟩ := hq52
            replace hq52 := hq52.symm
            subst hq52
            refine Wp.call rfl cqX10_add (sX10_add (W := (wa1 (wa1 W 255) δ)) (hW51) rfl) (fun rv53 s53 hq53 => ?_)
            obtain ⟨rfl, hW53, ho53⟩ := hq53
            iterate 4 refine Wp.go rfl ?_
            refine Wp.call rfl cqX10_addEntries (sX10_addEntries (W := (wa1 (wa1 (wa1 W 255) δ) L.1)) (hW53) isN_158 (hL.off ((((offC.rf).tr ho50).tr ho51).tr ho53) ⟨by decide, by decide, by decide⟩) ⟨by decide, by decide, by decide⟩ (rfl : _ = nI 0) (by omega)) (fun rv54 s54 hq54 => ?_)
            obtain ⟨rfl, hW54, ho54⟩ := hq54
            iterate 3 refine Wp.go rfl ?_
            refine Wp.call rfl cqX2_count (sX2_count isN_160 (hQ.off (((((offC.rf).tr ho50).tr ho51).tr ho53).tr ho54) ⟨by decide, by decide, by decide⟩)) (fun rv55 s55 hq55 => ?_)
            obtain ⟨rfl, hq55⟩ := hq55
            replace hq55 := hq55.symm
            subst hq55
            refine Wp.call rfl cqX10_add (sX10_add (W := (waL (wa1 (wa1 (wa1 W 255) δ) L.1) (enL L 0))) (hW54) rfl) (fun rv56 s56 hq56 => ?_)
            obtain ⟨rfl, hW56, ho56⟩ := hq56
            iterate 4 refine Wp.go rfl ?_
            refine Wp.call rfl cqX10_addEntries (sX10_addEntries (W := (wa1 (waL (wa1 (wa1 (wa1 W 255) δ) L.1) (enL L 0)) Q.1)) (hW56) isN_160 (hQ.off ((((((offC.rf).tr ho50).tr ho51).tr ho53).tr ho54).tr ho56) ⟨by decide, by decide, by decide⟩) ⟨by decide, by decide, by decide⟩ (rfl : _ = nI 0) (by omega)) (fun rv57 s57 hq57 => ?_)
            obtain ⟨rfl, hW57, ho57⟩ := hq57
            refine Wp.ret rfl ?_
            refine ⟨rfl, ?_, ((((((offC.rf).tr ho50).tr ho51).tr ho53).tr ho54).tr ho56).tr ho57⟩
            have eh7 : ¬ L.1 = B.1 := fun q => h7 ((sub0 h8L h8B).mpr q)
            have hz := hW57
            unfold w1A
            rw [if_neg (by first | omega | (intro q; simp_all; done)), if_neg (by first | omega | (intro q; simp_all; done)), if_neg (by first | (intro q; omega) | (intro q; simp_all; done))]
            have hz2 := hz
            rw [show ((255 :: δ :: L.1 :: (enL L 0 ++ Q.1 :: enL Q 0)) : List Nat) = [255, δ, L.1] ++ (enL L 0 ++ ([Q.1] ++ enL Q 0)) from rfl, waL_app, waL_app, waL_app]
            exact hz2
          · iterate 4 refine Wp.go rfl ?_
            refine Wp.call rfl cqX10_add (sX10_add (W := W) (hW) (add251 (rfl : _ = nI 251) h8L h8B (iE_sub rfl rfl))) (fun rv58 s58 hq58 => ?_)
            obtain ⟨rfl, hW58, ho58⟩ := hq58
            iterate 2 refine Wp.go rfl ?_
            refine Wp.call rfl cqX10_add (sX10_add (W := (wa1 W (251 + L.1 - B.1))) (hW58) hx) (fun rv59 s59 hq59 => ?_)
            obtain ⟨rfl, hW59, ho59⟩ := hq59
            iterate 5 refine Wp.go rfl ?_
            refine Wp.call rfl cqX2_count (sX2_count isN_156 (hB.off (((offC.rf).tr ho58).tr ho59) ⟨by decide, by decide, by decide⟩)) (fun rv60 s60 hq60 => ?_)
            obtain ⟨rfl, hq60⟩ := hq60
            replace hq60 := hq60.symm
            subst hq60
            refine Wp.call rfl cqX10_addEntries (sX10_addEntries (W := (wa1 (wa1 W (251 + L.1 - B.1)) δ)) (hW59) isN_158 (hL.off (((offC.rf).tr ho58).tr ho59) ⟨by decide, by decide, by decide⟩) ⟨by decide, by decide, by decide⟩ rfl (by omega)) (fun rv61 s61 hq61 => ?_)
            obtain ⟨rfl, hW61, ho61⟩ := hq61
            refine Wp.go rfl ?_
            refine Wp.ret rfl ?_
            refine ⟨rfl, ?_, (((offC.rf).tr ho58).tr ho59).tr ho61⟩
            have eh7 : ¬ L.1 = B.1 := fun q => h7 ((sub0 h8L h8B).mpr q)
            have hz := hW61
            unfold w1A
            rw [if_neg (by first | omega | simp_all), if_neg (by first | omega | simp_all), if_pos (by first | (exact ⟨by assumption, by assumption, by omega⟩) | simp_all)]
            exact hz
    · iterate 5 refine Wp.go rfl ?_
      refine Wp.eqN (a := 1) (b := 0) (rfl : _ = nI 1) (rfl : _ = nI 0) (by decide) (by decide) (fun q => absurd q (by decide)) (fun _ => ?_)
      iterate 2 refine Wp.go rfl ?_
      refine Wp.call rfl cqX2_count (sX2_count isN_160 (hQ)) (fun rv62 s62 hq62 => ?_)
      obtain ⟨rfl, hq62⟩ := hq62
      replace hq62 := hq62.symm
      subst hq62
      refine Wp.go rfl ?_
      refine Wp.neN (a := Q.1) (b := 0) rfl (rfl : _ = nI 0) (by omega) (by omega) (fun (h14 : ¬ Q.1 = 0) => ?_) (fun (h14 : Q.1 = 0) => ?_)
      · iterate 2 refine Wp.go rfl ?_
        refine Wp.eqN (a := 1) (b := 0) (rfl : _ = nI 1) (rfl : _ = nI 0) (by decide) (by decide) (fun q => absurd q (by decide)) (fun _ => ?_)
        iterate 2 refine Wp.go rfl ?_
        refine Wp.call rfl cqX2_count (sX2_count isN_160 (hQ)) (fun rv63 s63 hq63 => ?_)
        obtain ⟨rfl, hq63⟩ := hq63
        replace hq63 := hq63.symm
        subst hq63
        iterate 2 refine Wp.go rfl ?_
        refine Wp.neN (a := Q.1) (b := 1) rfl (rfl : _ = nI 1) (by omega) (by omega) (fun (h16 : ¬ Q.1 = 1) => ?_) (fun (h16 : Q.1 = 1) => ?_)
        · iterate 2 refine Wp.go rfl ?_
          refine Wp.beqE rfl (fun (h17 : (baA L B) = false) => ?_) (fun (h17 : (baA L B) = true) => ?_)
          · iterate 2 refine Wp.go rfl ?_
            refine Wp.call rfl cqX10_add (sX10_add (W := W) (hW) (rfl : _ = nI 255)) (fun rv64 s64 hq64 => ?_)
            obtain ⟨rfl, hW64, ho64⟩ := hq64
            iterate 2 refine Wp.go rfl ?_
            refine Wp.call rfl cqX10_add (sX10_add (W := (wa1 W 255)) (hW64) hx) (fun rv65 s65 hq65 => ?_)
            obtain ⟨rfl, hW65, ho65⟩ := hq65
            iterate 3 refine Wp.go rfl ?_
            refine Wp.call rfl cqX2_count (sX2_count isN_158 (hL.off (((offC.rf).tr ho64).tr ho65) ⟨by decide, by decide, by decide⟩)) (fun rv66 s66 hq66 => ?_)
            obtain ⟨rfl, hq66⟩ := hq66
            replace hq66 := hq66.symm
            subst hq66
            refine Wp.call rfl cqX10_add (sX10_add (W := (wa1 (wa1 W 255) δ)) (hW65) rfl) (fun rv67 s67 hq67 => ?_)
            obtain ⟨rfl, hW67, ho67⟩ := hq67
            iterate 4 refine Wp.go rfl ?_
            refine Wp.call rfl cqX10_addEntries (sX10_addEntries (W := (wa1 (wa1 (wa1 W 255) δ) L.1)) (hW67) isN_158 (hL.off ((((offC.rf).tr ho64).tr ho65).tr ho67) ⟨by decide, by decide, by decide⟩) ⟨by decide, by decide, by decide⟩ (rfl : _ = nI 0) (by omega)) (fun rv68 s68 hq68 => ?_)
            obtain ⟨rfl, hW68, ho68⟩ := hq68
            iterate 3 refine Wp.go rfl ?_
            refine Wp.call rfl cqX2_count (sX2_count isN_160 (hQ.off (((((offC.rf).tr ho64).tr ho65).tr ho67).tr ho68) ⟨by decide, by decide, by decide⟩)) (fun rv69 s69 hq69 => ?_)
            obtain ⟨rfl, hq69⟩ := hq69
            replace hq69 := hq69.symm
            subst hq69
            refine Wp.call rfl cqX10_add (sX10_add (W := (waL (wa1 (wa1 (wa1 W 255) δ) L.1) (enL L 0))) (hW68) rfl) (fun rv70 s70 hq70 => ?_)
            obtain ⟨rfl, hW70, ho70⟩ := hq70
            iterate 4 refine Wp.go rfl ?_
            refine Wp.call rfl cqX10_addEntries (sX10_addEntries (W := (wa1 (waL (wa1 (wa1 (wa1 W 255) δ) L.1) (enL L 0)) Q.1)) (hW70) isN_160 (hQ.off ((((((offC.rf).tr ho64).tr ho65).tr ho67).tr ho68).tr ho70) ⟨by decide, by decide, by decide⟩) ⟨by decide, by decide, by decide⟩ (rfl : _ = nI 0) (by omega)) (fun rv71 s71 hq71 => ?_)
            obtain ⟨rfl, hW71, ho71⟩ := hq71
            refine Wp.ret rfl ?_
            refine ⟨rfl, ?_, ((((((offC.rf).tr ho64).tr ho65).tr ho67).tr ho68).tr ho70).tr ho71⟩
            have eh7 : L.1 = B.1 := (sub0 h8L h8B).mp h7
            have hz := hW71
            unfold w1A
            rw [if_neg (by first | omega | (intro q; simp_all; done)), if_neg (by first | omega | (intro q; simp_all; done)), if_neg (by first | (intro q; omega) | (intro q; simp_all; done))]
            have hz2 := hz
            rw [show ((255 :: δ :: L.1 :: (enL L 0 ++ Q.1 :: enL Q 0)) : List Nat) = [255, δ, L.1] ++ (enL L 0 ++ ([Q.1] ++ enL Q 0)) from rfl, waL_app, waL_app, waL_app]
            exact hz2
          · iterate 2 refine Wp.go rfl ?_
            refine Wp.call rfl cqX2_count (sX2_count isN_160 (hQ)) (fun rv72 s72 hq72 => ?_)
            obtain ⟨rfl, hq72⟩ := hq72
            replace hq72 := hq72.symm
            subst hq72
            refine Wp.go rfl ?_
            refine Wp.neN (a := Q.1) (b := 0) rfl (rfl : _ = nI 0) (by omega) (by omega) (fun (h18 : ¬ Q.1 = 0) => ?_) (fun (h18 : Q.1 = 0) => ?_)
            · iterate 2 refine Wp.go rfl ?_
              refine Wp.call rfl cqX10_add (sX10_add (W := W) (hW) (rfl : _ = nI 255)) (fun rv73 s73 hq73 => ?_)
              obtain ⟨rfl, hW73, ho73⟩ := hq73
              iterate 2 refine Wp.go rfl ?_
              refine Wp.call rfl cqX10_add (sX10_add (W := (wa1 W 255)) (hW73) hx) (fun rv74 s74 hq74 => ?_)
              obtain ⟨rfl, hW74, ho74⟩ := hq74
              iterate 3 refine Wp.go rfl ?_
              refine Wp.call rfl cqX2_count (sX2_count isN_158 (hL.off (((offC.rf).tr ho73).tr ho74) ⟨by decide, by decide, by decide⟩)) (fun rv75 s75 hq75 => ?_)
              obtain ⟨rfl, hq75⟩ := hq75
              replace hq75 := hq75.symm
              subst hq75
              refine Wp.call rfl cqX10_add (sX10_add (W := (wa1 (wa1 W 255) δ)) (hW74) rfl) (fun rv76 s76 hq76 => ?_)
              obtain ⟨rfl, hW76, ho76⟩ := hq76
              iterate 4 refine Wp.go rfl ?_
              refine Wp.call rfl cqX10_addEntries (sX10_addEntries (W := (wa1 (wa1 (wa1 W 255) δ) L.1)) (hW76) isN_158 (hL.off ((((offC.rf).tr ho73).tr ho74).tr ho76) ⟨by decide, by decide, by decide⟩) ⟨by decide, by decide, by decide⟩ (rfl : _ = nI 0) (by omega)) (fun rv77 s77 hq77 => ?_)
              obtain ⟨rfl, hW77, ho77⟩ := hq77
              iterate 3 refine Wp.go rfl ?_
              refine Wp.call rfl cqX2_count (sX2_count isN_160 (hQ.off (((((offC.rf).tr ho73).tr ho74).tr ho76).tr ho77) ⟨by decide, by decide, by decide⟩)) (fun rv78 s78 hq78 => ?_)
              obtain ⟨rfl, hq78⟩ := hq78
              replace hq78 := hq78.symm
              subst hq78
              refine Wp.call rfl cqX10_add (sX10_add (W := (waL (wa1 (wa1 (wa1 W 255) δ) L.1) (enL L 0))) (hW77) rfl) (fun rv79 s79 hq79 => ?_)
              obtain ⟨rfl, hW79, ho79⟩ := hq79
              iterate 4 refine Wp.go rfl ?_
              refine Wp.call rfl cqX10_addEntries (sX10_addEntries (W := (wa1 (waL (wa1 (wa1 (wa1 W 255) δ) L.1) (enL L 0)) Q.1)) (hW79) isN_160 (hQ.off ((((((offC.rf).tr ho73).tr ho74).tr ho76).tr ho77).tr ho79) ⟨by decide, by decide, by decide⟩) ⟨by decide, by decide, by decide⟩ (rfl : _ = nI 0) (by omega)) (fun rv80 s80 hq80 => ?_)
              obtain ⟨rfl, hW80, ho80⟩ := hq80
              refine Wp.ret rfl ?_
              refine ⟨rfl, ?_, ((((((offC.rf).tr ho73).tr ho74).tr ho76).tr ho77).tr ho79).tr ho80⟩
              have eh7 : L.1 = B.1 := (sub0 h8L h8B).mp h7
              have hz := hW80
              unfold w1A
              rw [if_neg (by first | omega | (intro q; simp_all; done)), if_neg (by first | omega | (intro q; simp_all; done)), if_neg (by first | (intro q; omega) | (intro q; simp_all; done))]
              have hz2 := hz
              rw [show ((255 :: δ :: L.1 :: (enL L 0 ++ Q.1 :: enL Q 0)) : List Nat) = [255, δ, L.1] ++ (enL L 0 ++ ([Q.1] ++ enL Q 0)) from rfl, waL_app, waL_app, waL_app]
              exact hz2
            · iterate 2 refine Wp.go rfl ?_
              iterate 2 refine Wp.go rfl ?_
              refine Wp.gtN (a := (L.1 - B.1) + (B.1 - L.1)) (b := 3) (absE h8L h8B (iE_sub rfl rfl)) (rfl : _ = nI 3) (by omega) (by omega) (fun (h19 : 3 < (L.1 - B.1) + (B.1 - L.1)) => ?_) (fun (h19 : ¬ 3 < (L.1 - B.1) + (B.1 - L.1)) => ?_)
              · iterate 2 refine Wp.go rfl ?_
                refine Wp.call rfl cqX10_add (sX10_add (W := W) (hW) (rfl : _ = nI 255)) (fun rv81 s81 hq81 => ?_)
                obtain ⟨rfl, hW81, ho81⟩ := hq81
                iterate 2 refine Wp.go rfl ?_
                refine Wp.call rfl cqX10_add (sX10_add (W := (wa1 W 255)) (hW81) hx) (fun rv82 s82 hq82 => ?_)
                obtain ⟨rfl, hW82, ho82⟩ := hq82
                iterate 3 refine Wp.go rfl ?_
                refine Wp.call rfl cqX2_count (sX2_count isN_158 (hL.off (((offC.rf).tr ho81).tr ho82) ⟨by decide, by decide, by decide⟩)) (fun rv83 s83 hq83 => ?_)
                obtain ⟨rfl, hq83⟩ := hq83
                replace hq83 := hq83.symm
                subst hq83
                refine Wp.call rfl cqX10_add (sX10_add (W := (wa1 (wa1 W 255) δ)) (hW82) rfl) (fun rv84 s84 hq84 => ?_)
                obtain ⟨rfl, hW84, ho84⟩ := hq84
                iterate 4 refine Wp.go rfl ?_
                refine Wp.call rfl cqX10_addEntries (sX10_addEntries (W := (wa1 (wa1 (wa1 W 255) δ) L.1)) (hW84) isN_158 (hL.off ((((offC.rf).tr ho81).tr ho82).tr ho84) ⟨by decide, by decide, by decide⟩) ⟨by decide, by decide, by decide⟩ (rfl : _ = nI 0) (by omega)) (fun rv85 s85 hq85 => ?_)
                obtain ⟨rfl, hW85, ho85⟩ := hq85
                iterate 3 refine Wp.go rfl ?_
                refine Wp.call rfl cqX2_count (sX2_count isN_160 (hQ.off (((((offC.rf).tr ho81).tr ho82).tr ho84).tr ho85) ⟨by decide, by decide, by decide⟩)) (fun rv86 s86 hq86 => ?_)
                obtain ⟨rfl, hq86⟩ := hq86
                replace hq86 := hq86.symm
                subst hq86
                refine Wp.call rfl cqX10_add (sX10_add (W := (waL (wa1 (wa1 (wa1 W 255) δ) L.1) (enL L 0))) (hW85) rfl) (fun rv87 s87 hq87 => ?_)
                obtain ⟨rfl, hW87, ho87⟩ := hq87
                iterate 4 refine Wp.go rfl ?_
                refine Wp.call rfl cqX10_addEntries (sX10_addEntries (W := (wa1 (waL (wa1 (wa1 (wa1 W 255) δ) L.1) (enL L 0)) Q.1)) (hW87) isN_160 (hQ.off ((((((offC.rf).tr ho81).tr ho82).tr ho84).tr ho85).tr ho87) ⟨by decide, by decide, by decide⟩) ⟨by decide, by decide, by decide⟩ (rfl : _ = nI 0) (by omega)) (fun rv88 s88 hq88 => ?_)
                obtain ⟨rfl, hW88, ho88⟩ := hq88
                refine Wp.ret rfl ?_
                refine ⟨rfl, ?_, ((((((offC.rf).tr ho81).tr ho82).tr ho84).tr ho85).tr ho87).tr ho88⟩
                have eh7 : L.1 = B.1 := (sub0 h8L h8B).mp h7
                have hz := hW88
                unfold w1A
                rw [if_neg (by first | omega | (intro q; simp_all; done)), if_neg (by first | omega | (intro q; simp_all; done)), if_neg (by first | (intro q; omega) | (intro q; simp_all; done))]
                have hz2 := hz
                rw [show ((255 :: δ :: L.1 :: (enL L 0 ++ Q.1 :: enL Q 0)) : List Nat) = [255, δ, L.1] ++ (enL L 0 ++ ([Q.1] ++ enL Q 0)) from rfl, waL_app, waL_app, waL_app]
                exact hz2
              · iterate 4 refine Wp.go rfl ?_
                refine Wp.call rfl cqX10_add (sX10_add (W := W) (hW) (add251 (rfl : _ = nI 251) h8L h8B (iE_sub rfl rfl))) (fun rv89 s89 hq89 => ?_)
                obtain ⟨rfl, hW89, ho89⟩ := hq89
                iterate 2 refine Wp.go rfl ?_
                refine Wp.call rfl cqX10_add (sX10_add (W := (wa1 W (251 + L.1 - B.1))) (hW89) hx) (fun rv90 s90 hq90 => ?_)
                obtain ⟨rfl, hW90, ho90⟩ := hq90
                iterate 5 refine Wp.go rfl ?_
                refine Wp.call rfl cqX2_count (sX2_count isN_156 (hB.off (((offC.rf).tr ho89).tr ho90) ⟨by decide, by decide, by decide⟩)) (fun rv91 s91 hq91 => ?_)
                obtain ⟨rfl, hq91⟩ := hq91
                replace hq91 := hq91.symm
                subst hq91
                refine Wp.call rfl cqX10_addEntries (sX10_addEntries (W := (wa1 (wa1 W (251 + L.1 - B.1)) δ)) (hW90) isN_158 (hL.off (((offC.rf).tr ho89).tr ho90) ⟨by decide, by decide, by decide⟩) ⟨by decide, by decide, by decide⟩ rfl (by omega)) (fun rv92 s92 hq92 => ?_)
                obtain ⟨rfl, hW92, ho92⟩ := hq92
                refine Wp.go rfl ?_
                refine Wp.ret rfl ?_
                refine ⟨rfl, ?_, (((offC.rf).tr ho89).tr ho90).tr ho92⟩
                have eh7 : L.1 = B.1 := (sub0 h8L h8B).mp h7
                have hz := hW92
                unfold w1A
                rw [if_neg (by first | omega | simp_all), if_neg (by first | omega | simp_all), if_pos (by first | (exact ⟨by assumption, by assumption, by omega⟩) | simp_all)]
                exact hz
        · iterate 4 refine Wp.go rfl ?_
          refine Wp.call rfl cqX10_add (sX10_add (W := W) (hW) (nE_add (rfl : _ = nI 64) hx)) (fun rv93 s93 hq93 => ?_)
          obtain ⟨rfl, hW93, ho93⟩ := hq93
          iterate 4 refine Wp.go rfl ?_
          refine Wp.call rfl cqX10_addEntries (sX10_addEntries (W := (wa1 W (64 + δ))) (hW93) isN_160 (hQ.off ((offC.rf).tr ho93) ⟨by decide, by decide, by decide⟩) ⟨by decide, by decide, by decide⟩ (rfl : _ = nI 0) (by omega)) (fun rv94 s94 hq94 => ?_)
          obtain ⟨rfl, hW94, ho94⟩ := hq94
          refine Wp.go rfl ?_
          refine Wp.ret rfl ?_
          refine ⟨rfl, ?_, ((offC.rf).tr ho93).tr ho94⟩
          have eh7 : L.1 = B.1 := (sub0 h8L h8B).mp h7
          have hz := hW94
          unfold w1A
          rw [if_neg (by omega), if_pos (by first | (exact ⟨⟨by assumption, by assumption⟩, by assumption⟩) | simp_all)]
          exact hz
      · iterate 2 refine Wp.go rfl ?_
        refine Wp.call rfl cqX10_add (sX10_add (W := W) (hW) hx) (fun rv95 s95 hq95 => ?_)
        obtain ⟨rfl, hW95, ho95⟩ := hq95
        refine Wp.go rfl ?_
        refine Wp.ret rfl ?_
        refine ⟨rfl, ?_, (offC.rf).tr ho95⟩
        have eh7 : L.1 = B.1 := (sub0 h8L h8B).mp h7
        have hz := hW95
        unfold w1A
        rw [if_pos (by first | (exact ⟨⟨by assumption, by assumption⟩, by assumption⟩) | simp_all)]
        exact hz
abbrev xS : Type := wS × eS × eS × eS
def cWrt (X : xS) (σ : mc_G) : Prop := cWri X.1 σ ∧ cEnt 156 X.2.1 σ ∧ cEnt 158 X.2.2.1 σ ∧ cEnt 160 X.2.2.2 σ
def offW (σ σ' : mc_G) : Prop := ∀ b, (b < 154 ∨ 161 < b) → σ' b = σ b
theorem offW.rf {σ : mc_G} : offW σ σ := fun _ _ => rfl
theorem offW.tr {σ σ1 σ2 : mc_G} (h : offW σ σ1) (k : offW σ1 σ2) : offW σ σ2 := fun b h1 => (k b h1).trans (h b h1)
theorem offC.W {a : Nat} {σ σ' : mc_G} (h : offC a σ σ') (h1 : 154 ≤ a ∧ a + 1 ≤ 161) : offW σ σ' := fun b hb => h b (by omega) (by omega)
theorem cCel.oW {a : Nat} {c : cS} {σ σ' : mc_G} (h : cCel a c σ) (o : offW σ σ') (ha : a + 1 < 154 ∨ 161 < a) : cCel a c σ' := h.to (o a (by omega)) (o (a + 1) (by omega))
theorem cFrm.oW {F : fS} {σ σ' : mc_G} (h : cFrm F σ) (o : offW σ σ') : cFrm F σ' :=
  ⟨fun i hi => ⟨by rw [o 87 (by decide)]; exact (h.1 i hi).1, by rw [o 88 (by decide)]; exact (h.1 i hi).2.1, by rw [o 89 (by decide)]; exact (h.1 i hi).2.2.1, (h.1 i hi).2.2.2.oW o (by omega)⟩, by rw [o 86 (by decide)]; exact h.2.1, h.2.2⟩
theorem cSts.oW {S : sS} {σ σ' : mc_G} (h : cSts S σ) (o : offW σ σ') : cSts S σ' :=
  ⟨fun i hi => ⟨(h.1 i hi).1.oW o (by omega), by rw [o 82 (by decide)]; exact (h.1 i hi).2.1, by rw [o 83 (by decide)]; exact (h.1 i hi).2.2⟩, by rw [o 17 (by decide)]; exact h.2.1, h.2.2.oW o (by decide)⟩
/-- one FRAME is WRITTEN: the state is the picture and how far one has come -/
def fwS (S : sS) (F : fS) (Y : xS × Nat) (i : Nat) : xS × Nat :=
  ((waL Y.1.1 (w1A Y.1.2.1 (tlA (S.1 (F.1 i)) Y.1.2.2.1) (tqA (S.1 (F.1 i)) Y.1.2.2.2) (F.1 i - Y.2)), tlA (S.1 (F.1 i)) Y.1.2.1, tlA (S.1 (F.1 i)) Y.1.2.2.1, tqA (S.1 (F.1 i)) Y.1.2.2.2), F.1 i + 1)
def wrA (c : cS) (S : sS) (F : fS) (X : xS) : xS := (foR (fwS S F) F.2.2.2.2 0 (((0, X.1.2), tlA c X.2.1, X.2.2.1, X.2.2.2), 0)).1
theorem dlE {x y : Int32} {a q : Nat} (hx : x = nI a) (hy : y = nI q - 1) (h : q ≤ a) (ha : a < 30) : x - y - 1 = nI (a - q) := by
  rw [hx, hy]
  have : ∀ a, a < 30 → ∀ q, q < 30 → q ≤ a → nI a - (nI q - 1) - 1 = nI (a - q) := by decide
  exact this a ha q (by omega) h
theorem laE {x : Int32} {a : Nat} (hx : x = nI a) : x = nI (a + 1) - 1 := by
  rw [hx, show nI (a + 1) = nI a + 1 from (nE_add rfl (rfl : _ = nI 1)).symm]
  exact (Int32.add_sub_cancel _ _).symm
theorem iuA_lt {F : fS} {k : Nat} (h : k < F.2.2.2.2) : iuA F k = nI (F.1 k) := by unfold iuA; rw [if_pos h]
set_option maxRecDepth 100000 in
theorem lX10_wr {S : sS} {F : fS} {d1 : Nat} {σ0 : mc_G} (hF30 : F.2.2.2.2 ≤ 30) (hI : ∀ k, k < F.2.2.2.2 → F.1 k < 30) (hI2 : ∀ k, k + 1 < F.2.2.2.2 → F.1 k < F.1 (k + 1)) : ∀ (n i : Nat) (x5 x4 : Int32), x5 = nI i → i + n = F.2.2.2.2 → ∀ (Y : xS × Nat) (σ : mc_G), x4 = nI Y.2 - 1 → (i < F.2.2.2.2 → Y.2 ≤ F.1 i) → cWrt Y.1 σ → cFrm F σ → cSts S σ → offW σ0 σ → Wp miX10_write 19 [(0, .inr (some 154)), (1, .inr (some d1)), (2, .inr (some 17)), (3, .inr (some 86)), (4, .inl x4), (5, .inl x5)] [] σ (fun rv σ' => rv = none ∧ cWrt (foR (fwS S F) n i Y).1 σ' ∧ offW σ0 σ') := by
  intro n
  induction n with
  | zero =>
    intro i x5 x4 h5 hin Y σ h4 hle hY hF hS ho
    iterate 2 refine Wp.go rfl ?_
    refine Wp.call rfl cqX3_count (sX3_count hF) (fun rv1 s1 hq1 => ?_)
    obtain ⟨rfl, hq1⟩ := hq1
    replace hq1 := hq1.symm
    subst hq1
    refine Wp.go rfl ?_
    refine Wp.geN (a := i) (b := F.2.2.2.2) h5 rfl (by omega) (by omega) (fun h1 => ?_) (fun h1 => ?_)
    · refine Wp.ret rfl ?_
      exact ⟨rfl, hY, ho⟩
    · exfalso; omega
  | succ n ih =>
    intro i x5 x4 h5 hin Y σ h4 hle hY hF hS ho
    have hi : i < F.2.2.2.2 := by omega
    have hI1 := hI i hi
    iterate 2 refine Wp.go rfl ?_
    refine Wp.call rfl cqX3_count (sX3_count hF) (fun rv1 s1 hq1 => ?_)
    obtain ⟨rfl, hq1⟩ := hq1
    replace hq1 := hq1.symm
    subst hq1
    refine Wp.go rfl ?_
    refine Wp.geN (a := i) (b := F.2.2.2.2) h5 rfl (by omega) (by omega) (fun h1 => absurd hi h1) (fun h1 => ?_)
    iterate 2 refine Wp.go rfl ?_
    refine Wp.call rfl cqX3_instructionOf (sX3_instructionOf hF h5 (by omega)) (fun rv2 s2 hq2 => ?_)
    obtain ⟨rfl, hq2⟩ := hq2
    replace hq2 := hq2.symm
    subst hq2
    have hx6 : iuA F i = nI (F.1 i) := iuA_lt hi
    iterate 3 refine Wp.go rfl ?_
    refine Wp.call rfl cqX7_row (sX7_row hx6 hI1) (fun rv3 s3 hq3 => ?_)
    obtain ⟨rfl, hq3⟩ := hq3
    replace hq3 := hq3.symm
    subst hq3
    have hC := isC_row hI1
    have hc := (hS.1 _ hI1).1
    iterate 4 refine Wp.go rfl ?_
    refine Wp.call rfl cqX2_takeLocals (sX2_takeLocals isN_158 hY.2.2.1 hC hc ⟨by omega, by omega, by omega⟩) (fun rv4 s4 hq4 => ?_)
    obtain ⟨rfl, hE4, ho4⟩ := hq4
    have hc4 := hc.off ho4 ⟨by omega, by omega, by omega⟩
    have hP4 := hY.2.2.2.off ho4 ⟨by decide, by decide, by decide⟩
    have hB4 := hY.2.1.off ho4 ⟨by decide, by decide, by decide⟩
    have hW4 := hY.1.to (ho4 154 (by decide) (by decide)) (ho4 155 (by decide) (by decide))
    iterate 3 refine Wp.go rfl ?_
    refine Wp.call rfl cqX2_takePile (sX2_takePile isN_160 hP4 hC hc4 ⟨by omega, by omega, by omega⟩) (fun rv5 s5 hq5 => ?_)
    obtain ⟨rfl, hE5, ho5⟩ := hq5
    have hc5 := hc4.off ho5 ⟨by omega, by omega, by omega⟩
    have hL5 := hE4.off ho5 ⟨by decide, by decide, by decide⟩
    have hB5 := hB4.off ho5 ⟨by decide, by decide, by decide⟩
    have hW5 := hW4.to (ho5 154 (by decide) (by decide)) (ho5 155 (by decide) (by decide))
    iterate 6 refine Wp.go rfl ?_
    refine Wp.call rfl cqX10_writeOne (sX10_writeOne hW5 hB5 hL5 hE5 (dlE hx6 h4 (hle hi) hI1)) (fun rv6 s6 hq6 => ?_)
    obtain ⟨rfl, hW6, ho6⟩ := hq6
    have hc6 := hc5.off ho6 ⟨by omega, by omega, by omega⟩
    have hL6 := hL5.off ho6 ⟨by decide, by decide, by decide⟩
    have hP6 := hE5.off ho6 ⟨by decide, by decide, by decide⟩
    have hB6 := hB5.off ho6 ⟨by decide, by decide, by decide⟩
    iterate 3 refine Wp.go rfl ?_
    refine Wp.call rfl cqX2_takeLocals (sX2_takeLocals isN_156 hB6 hC hc6 ⟨by omega, by omega, by omega⟩) (fun rv7 s7 hq7 => ?_)
    obtain ⟨rfl, hE7, ho7⟩ := hq7
    have hL7 := hL6.off ho7 ⟨by decide, by decide, by decide⟩
    have hP7 := hP6.off ho7 ⟨by decide, by decide, by decide⟩
    have hW7 := hW6.to (ho7 154 (by decide) (by decide)) (ho7 155 (by decide) (by decide))
    have hO : offW σ s7 := (((ho4.W (by decide)).tr (ho5.W (by decide))).tr (ho6.W (by decide))).tr (ho7.W (by decide))
    iterate 4 refine Wp.go rfl ?_
    refine Wp.lo (lo := [(0, .inr (some 154)), (1, .inr (some d1)), (2, .inr (some 17)), (3, .inr (some 86)), (4, .inl _), (5, .inl _)]) ⟨rfl, rfl, rfl, rfl, rfl, rfl, trivial⟩ ?_
    exact ih (i + 1) _ _ (nE_add h5 (rfl : _ = nI 1)) (by omega) (fwS S F Y i) _ (laE hx6) (fun hlt => hI2 i hlt) ⟨hW7, hE7, hL7, hP7⟩ (hF.oW hO) (hS.oW hO) (ho.tr hO)
theorem sX10_write {X : xS} {S : sS} {F : fS} {c : cS} {σ : mc_G} (hX : cWrt X σ) (hc : cCel 11 c σ) (hS : cSts S σ) (hF : cFrm F σ) (hI : ∀ k, k < F.2.2.2.2 → F.1 k < 30) (hI2 : ∀ k, k + 1 < F.2.2.2.2 → F.1 k < F.1 (k + 1)) : Wp miX10_write 0 [(0, .inr (some 154)), (1, .inr (some 11)), (2, .inr (some 17)), (3, .inr (some 86))] [] σ (fun rv σ' => rv = none ∧ cWrt (wrA c S F X) σ' ∧ offW σ σ') := by
  iterate 3 refine Wp.go rfl ?_
  have hz := hX.1.h (v := 0) (q := 0) rfl (by decide)
  have hoz : offC 154 σ (mc_up σ 154 1 0) := offC.rf.h
  iterate 5 refine Wp.go rfl ?_
  refine Wp.call rfl cqX2_takeLocals (sX2_takeLocals isN_156 (hX.2.1.off hoz ⟨by decide, by decide, by decide⟩) isC_11 (hc.off hoz ⟨by decide, by decide, by decide⟩) ⟨by decide, by decide, by decide⟩) (fun rv1 s1 hq1 => ?_)
  obtain ⟨rfl, hE1, ho1⟩ := hq1
  have hO : offW σ s1 := (hoz.W (by decide)).tr (ho1.W (by decide))
  iterate 2 refine Wp.go rfl ?_
  refine Wp.lo (lo := [(0, .inr (some 154)), (1, .inr (some 11)), (2, .inr (some 17)), (3, .inr (some 86)), (4, .inl _), (5, .inl _)]) ⟨rfl, rfl, rfl, rfl, rfl, rfl, trivial⟩ ?_
  exact lX10_wr hF.2.2 hI hI2 F.2.2.2.2 0 _ _ (rfl : _ = nI 0) (by omega) (((0, X.1.2), tlA c X.2.1, X.2.2.1, X.2.2.2), 0) _ rfl (fun _ => Nat.zero_le _) ⟨hz.to (ho1 154 (by decide) (by decide)) (ho1 155 (by decide) (by decide)), hE1, (hX.2.2.1.off hoz ⟨by decide, by decide, by decide⟩).off ho1 ⟨by decide, by decide, by decide⟩, (hX.2.2.2.off hoz ⟨by decide, by decide, by decide⟩).off ho1 ⟨by decide, by decide, by decide⟩⟩ (hF.oW hO) (hS.oW hO) hO

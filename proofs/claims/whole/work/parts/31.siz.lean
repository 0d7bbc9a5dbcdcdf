theorem cSiz.cg {Z Z' : zS} {σ : mc_G} (h : cSiz Z σ) (e1 : ∀ j, j < 30 → Z'.1 j = Z.1 j) (e2 : ∀ j, j < 30 → Z'.2.1 j = Z.2.1 j) (e3 : Z'.2.2 = Z.2.2) : cSiz Z' σ :=
  ⟨fun i hi => by rw [e1 i hi, e2 i hi]; exact h.1 i hi, by rw [e3]; exact h.2⟩
def zcA (Z : zS) (i : Nat) : zS := (fun j => if j < i then 0 else Z.1 j, fun j => if j < i then false else Z.2.1 j, Z.2.2)
theorem zcA_s {Z : zS} {i : Nat} {σ : mc_G} (h : cSiz (va_up (zcA Z i).1 i 0, va_up (zcA Z i).2.1 i false, Z.2.2) σ) : cSiz (zcA Z (i + 1)) σ := by
  refine h.cg (fun j _ => ?_) (fun j _ => ?_) rfl
  · unfold zcA va_up
    by_cases e : j = i
    · simp [e]
    · by_cases e2 : j < i
      · simp [e, e2, show j < i + 1 by omega]
      · simp [e, e2, show ¬ j < i + 1 by omega]
  · unfold zcA va_up
    by_cases e : j = i
    · simp [e]
    · by_cases e2 : j < i
      · simp [e, e2, show j < i + 1 by omega]
      · simp [e, e2, show ¬ j < i + 1 by omega]
def z0A (g : Bool) : zS := (fun _ => 0, fun _ => false, g)
set_option maxRecDepth 100000 in
theorem lX6_fwA {Z : zS} {σ0 : mc_G} {Φ : Option mc_V → mc_G → Prop} : ∀ (n i : Nat) (x1 : Int32), x1 = nI i → i + n = 31 → ∀ (σ : mc_G), cSiz (zcA Z i) σ → offS σ0 σ → (∀ (y1 : Int32) (σ' : mc_G), cSiz (z0A Z.2.2) σ' → offS σ0 σ' → Wp miX6_followWays 28 [(0, .inr (some 13)), (1, .inl y1)] [] σ' Φ) → Wp miX6_followWays 2 [(0, .inr (some 13)), (1, .inl x1)] [] σ Φ := by
  intro n
  induction n with
  | zero =>
    intro i x1 hz1 hin σ hZ ho k
    iterate 3 refine Wp.go rfl ?_
    refine Wp.geN (a := i) (b := 30) hz1 (rfl : _ = nI 30) (by omega) (by omega) (fun (h1 : ¬ i < 30) => ?_) (fun (h1 : i < 30) => ?_)
    · exact k _ _ (hZ.cg (fun j hj => by unfold zcA; simp [show j < i by omega]; rfl) (fun j hj => by unfold zcA; simp [show j < i by omega]; rfl) rfl) ho
    · exfalso; omega
  | succ n ih =>
    intro i x1 hz1 hin σ hZ ho k
    iterate 3 refine Wp.go rfl ?_
    refine Wp.geN (a := i) (b := 30) hz1 (rfl : _ = nI 30) (by omega) (by omega) (fun (h1 : ¬ i < 30) => ?_) (fun (h1 : i < 30) => ?_)
    · first | (exfalso; omega) | exact k _ _ (hZ.cg (fun j hj => by unfold zcA; simp [show j < i by omega]; rfl) (fun j hj => by unfold zcA; simp [show j < i by omega]; rfl) rfl) ho
    · iterate 4 refine Wp.go rfl ?_
      refine Wp.go (if_pos ⟨(show 14 < 187 by decide), rfl, (inE (n := 30) hz1 (by omega))⟩) ?_
      iterate 4 refine Wp.go rfl ?_
      refine Wp.go (if_pos ⟨(show 15 < 187 by decide), rfl, (inE (n := 30) hz1 (by omega)), Or.inl rfl⟩) ?_
      iterate 2 refine Wp.go rfl ?_
      have hz := zcA_s (((((hZ).m hz1 (by omega) (rfl : _ = nI 0) (by omega)).1).w hz1 (by omega) (rfl : _ = bI false)).1)
      refine Wp.lo (lo := [(0, .inr (some 13)), (1, .inl _)]) ⟨rfl, rfl, trivial⟩ ?_
      exact ih (i + 1) _ (nE_add hz1 (rfl : _ = nI 1)) (by omega) _ hz (ho.tr (((offS.rf).tr ((hZ).m hz1 (by omega) (rfl : _ = nI 0) (by omega)).2).tr ((((hZ).m hz1 (by omega) (rfl : _ = nI 0) (by omega)).1).w hz1 (by omega) (rfl : _ = bI false)).2)) k
theorem cSta.to {σ σ' : mc_G} (h : cSta σ) (o : offS σ σ') : cSta σ' := fun k hk => by rw [o 1000 (by decide) (by decide) (by decide), o 1001 (by decide) (by decide) (by decide)]; exact h k hk
set_option maxRecDepth 100000 in
theorem lX6_fwC {P : pT} (hO1 : pn P ≤ 30 ∧ qn P ≤ 4) (hp20 : ∀ k, k < pn P → po P k ≤ 20) (hB : ∀ j, j < qn P → qf P j < qt P j ∧ qt P j ≤ 30 ∧ qa P j < 30 ∧ qk P j < 8) (hJ : ∀ k, k < 30 → juA P k = true → nuA P k = nI (nuN P k) ∧ nuN P k < 30) {σ0 : mc_G} {Φ : Option mc_V → mc_G → Prop} {x1 : Int32} : ∀ (n i : Nat) (x2 : Int32), x2 = nI i → i + n = 30 → ∀ (Z : zS) (σ : mc_G), cSiz Z σ → cCode P σ → cSta σ → offS σ0 σ → (∀ (y2 : Int32) (σ' : mc_G), cSiz (foR (rdA P) n i Z) σ' → cCode P σ' → cSta σ' → offS σ0 σ' → Wp miX6_followWays 89 [(0, .inr (some 13)), (1, .inl x1), (2, .inl y2)] [] σ' Φ) → Wp miX6_followWays 56 [(0, .inr (some 13)), (1, .inl x1), (2, .inl x2)] [] σ Φ := by
  intro n
  induction n with
  | zero =>
    intro i x2 hz2 hin Z σ hZ hP hS ho k
    iterate 3 refine Wp.go rfl ?_
    refine Wp.geN (a := i) (b := 30) hz2 (rfl : _ = nI 30) (by omega) (by omega) (fun (h1 : ¬ i < 30) => ?_) (fun (h1 : i < 30) => ?_)
    · exact k _ _ hZ hP hS ho
    · exfalso; omega
  | succ n ih =>
    intro i x2 hz2 hin Z σ hZ hP hS ho k
    iterate 3 refine Wp.go rfl ?_
    refine Wp.geN (a := i) (b := 30) hz2 (rfl : _ = nI 30) (by omega) (by omega) (fun (h1 : ¬ i < 30) => ?_) (fun (h1 : i < 30) => ?_)
    · exfalso; omega
    · iterate 3 refine Wp.go rfl ?_
      refine Wp.go (if_pos ⟨rfl, rfl, (inE (n := 30) hz2 (by omega))⟩) ?_
      refine Wp.go rfl ?_
      refine Wp.beqE (rdE hz2 (by omega) (hZ.1 i (by omega)).2.2) (fun (h2 : (Z.2.1 i) = false) => ?_) (fun (h2 : (Z.2.1 i) = true) => ?_)
      · iterate 2 refine Wp.go rfl ?_
        have e1 : foR (rdA P) (n + 1) i Z = foR (rdA P) n (i + 1) Z := by show foR (rdA P) n (i + 1) (rdA P Z i) = _; unfold rdA; rw [if_neg (by rw [h2]; decide)]
        rw [e1] at k
        refine Wp.lo (lo := [(0, .inr (some 13)), (1, .inl _), (2, .inl _)]) ⟨rfl, rfl, rfl, trivial⟩ ?_
        exact ih (i + 1) _ (nE_add hz2 (rfl : _ = nI 1)) (by omega) _ _ (hZ) hP hS (ho.tr (offS.rf)) k
      · iterate 4 refine Wp.go rfl ?_
        refine Wp.go (if_pos ⟨(show 15 < 187 by decide), rfl, (inE (n := 30) hz2 (by omega)), Or.inl rfl⟩) ?_
        iterate 2 refine Wp.go rfl ?_
        refine Wp.call rfl cqX6_leave (sX6_leave hO1 hp20 hB hz2 (by omega) (hJ i (by omega)) (((hZ).w hz2 (by omega) (rfl : _ = bI false)).1) (hP.to (fun b hb1 hb2 => ((offS.rf).tr ((hZ).w hz2 (by omega) (rfl : _ = bI false)).2) b (by omega) (by omega) (by omega))) (cSta.to hS ((offS.rf).tr ((hZ).w hz2 (by omega) (rfl : _ = bI false)).2))) (fun rv1 s1 hq1 => ?_)
        obtain ⟨rfl, hZ1, ho1⟩ := hq1
        have hP1 : cCode P s1 := hP.to (fun b hb1 hb2 => (((offS.rf).tr ((hZ).w hz2 (by omega) (rfl : _ = bI false)).2).tr ho1) b (by omega) (by omega) (by omega))
        have hS1 : cSta s1 := cSta.to hS (((offS.rf).tr ((hZ).w hz2 (by omega) (rfl : _ = bI false)).2).tr ho1)
        iterate 2 refine Wp.go rfl ?_
        have e1 : foR (rdA P) (n + 1) i Z = foR (rdA P) n (i + 1) (lvA P (nuN P i) ((Z.1, va_up Z.2.1 i false, Z.2.2)) i) := by show foR (rdA P) n (i + 1) (rdA P Z i) = _; unfold rdA; rw [if_pos h2]
        rw [e1] at k
        refine Wp.lo (lo := [(0, .inr (some 13)), (1, .inl _), (2, .inl _)]) ⟨rfl, rfl, rfl, trivial⟩ ?_
        exact ih (i + 1) _ (nE_add hz2 (rfl : _ = nI 1)) (by omega) _ _ (hZ1) hP1 hS1 (ho.tr (((offS.rf).tr ((hZ).w hz2 (by omega) (rfl : _ = bI false)).2).tr ho1)) k
set_option maxRecDepth 100000 in
theorem lX6_fwB {P : pT} (hO1 : pn P ≤ 30 ∧ qn P ≤ 4) (hp20 : ∀ k, k < pn P → po P k ≤ 20) (hB : ∀ j, j < qn P → qf P j < qt P j ∧ qt P j ≤ 30 ∧ qa P j < 30 ∧ qk P j < 8) (hJ : ∀ k, k < 30 → juA P k = true → nuA P k = nI (nuN P k) ∧ nuN P k < 30) {σ0 : mc_G} : ∀ (n i : Nat) (x1 : Int32), x1 = nI i → i + n = 100000 → ∀ (Z : zS) (σ : mc_G), cSiz Z σ → cCode P σ → cSta σ → offS σ0 σ → Wp miX6_followWays 36 [(0, .inr (some 13)), (1, .inl x1)] [] σ (fun rv σ' => rv = none ∧ cSiz (fwA P n Z) σ' ∧ offS σ0 σ') := by
  intro n
  induction n with
  | zero =>
    intro i x1 hz1 hin Z σ hZ hP hS ho
    iterate 3 refine Wp.go rfl ?_
    refine Wp.geN (a := i) (b := 100000) hz1 (rfl : _ = nI 100000) (by omega) (by omega) (fun (h1 : ¬ i < 100000) => ?_) (fun (h1 : i < 100000) => ?_)
    · refine Wp.ret rfl ?_
      exact ⟨rfl, hZ, ho⟩
    · exfalso; omega
  | succ n ih =>
    intro i x1 hz1 hin Z σ hZ hP hS ho
    iterate 3 refine Wp.go rfl ?_
    refine Wp.geN (a := i) (b := 100000) hz1 (rfl : _ = nI 100000) (by omega) (by omega) (fun (h1 : ¬ i < 100000) => ?_) (fun (h1 : i < 100000) => ?_)
    · refine Wp.ret rfl ?_
      first | (exfalso; omega) | (refine ⟨rfl, ?_, ho⟩; show cSiz (if Z.2.2 = true then fwA P n (rnA P Z) else Z) σ; rw [if_neg (by rw [h2]; decide)]; exact hZ)
    · iterate 3 refine Wp.go rfl ?_
      refine Wp.beqE hZ.2 (fun (h2 : Z.2.2 = false) => ?_) (fun (h2 : Z.2.2 = true) => ?_)
      · refine Wp.ret rfl ?_
        first | (exfalso; omega) | (refine ⟨rfl, ?_, ho⟩; show cSiz (if Z.2.2 = true then fwA P n (rnA P Z) else Z) σ; rw [if_neg (by rw [h2]; decide)]; exact hZ)
      · iterate 2 refine Wp.go rfl ?_
        refine Wp.go rfl ?_
        iterate 2 refine Wp.go rfl ?_
        have hoz := (offS.rf).tr ((hZ).g (rfl : _ = bI false)).2
        refine Wp.lo (lo := [(0, .inr (some 13)), (1, .inl _), (2, .inl _)]) ⟨rfl, rfl, rfl, trivial⟩ ?_
        refine lX6_fwC hO1 hp20 hB hJ 30 0 _ (rfl : _ = nI 0) rfl _ _ (((hZ).g (rfl : _ = bI false)).1) (hP.to (fun b hb1 hb2 => hoz b (by omega) (by omega) (by omega))) (cSta.to hS hoz) (ho.tr hoz) (fun y2 s1 hZ1 hP1 hS1 ho1 => ?_)
        have e1 : fwA P (n + 1) Z = fwA P n (rnA P Z) := by show (if Z.2.2 = true then fwA P n (rnA P Z) else Z) = _; rw [if_pos h2]
        rw [e1]
        iterate 2 refine Wp.go rfl ?_
        refine Wp.lo (lo := [(0, .inr (some 13)), (1, .inl _)]) ⟨rfl, rfl, trivial⟩ ?_
        exact ih (i + 1) _ (nE_add hz1 (rfl : _ = nI 1)) (by omega) _ _ hZ1 hP1 hS1 ho1
set_option maxRecDepth 100000 in
theorem sX6_followWays {P : pT} (hO1 : pn P ≤ 30 ∧ qn P ≤ 4) (hp20 : ∀ k, k < pn P → po P k ≤ 20) (hB : ∀ j, j < qn P → qf P j < qt P j ∧ qt P j ≤ 30 ∧ qa P j < 30 ∧ qk P j < 8) (hJ : ∀ k, k < 30 → juA P k = true → nuA P k = nI (nuN P k) ∧ nuN P k < 30) {Z : zS} {σ : mc_G} (hZ : cSiz Z σ) (hP : cCode P σ) (hS : cSta σ) : Wp miX6_followWays 0 [(0, .inr (some 13))] [] σ (fun rv σ' => rv = none ∧ cSiz (fwA P 100000 (coA (pn P) (z0A Z.2.2) 0 0)) σ' ∧ offS σ σ') := by
  iterate 2 refine Wp.go rfl ?_
  refine Wp.lo (lo := [(0, .inr (some 13)), (1, .inl _)]) ⟨rfl, rfl, trivial⟩ ?_
  refine lX6_fwA (Z := Z) (σ0 := σ) 31 0 _ (rfl : _ = nI 0) rfl σ (hZ.cg (fun j _ => by simp [zcA]) (fun j _ => by simp [zcA]) rfl) offS.rf (fun y1 s1 hZ1 ho1 => ?_)
  have hP1 : cCode P s1 := hP.to (fun b hb1 hb2 => ho1 b (by omega) (by omega) (by omega))
  iterate 3 refine Wp.go rfl ?_
  refine Wp.call rfl cqX6_come (sX6_come (s := 0) (k := 0) hP1 hO1 hp20 hZ1 (rfl : _ = nI 0) (by omega) (rfl : _ = nI 0) (by omega)) (fun rv2 s2 hq2 => ?_)
  obtain ⟨rfl, hZ2, ho2⟩ := hq2
  iterate 2 refine Wp.go rfl ?_
  refine Wp.lo (lo := [(0, .inr (some 13)), (1, .inl _)]) ⟨rfl, rfl, trivial⟩ ?_
  exact lX6_fwB hO1 hp20 hB hJ 100000 0 _ (rfl : _ = nI 0) rfl _ _ hZ2 (hP1.to (fun b hb1 hb2 => ho2 b (by omega) (by omega) (by omega))) (cSta.to hS (ho1.tr ho2)) (ho1.tr ho2)

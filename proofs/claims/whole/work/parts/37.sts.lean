def ssA (S : sS) (i : Nat) : sS := (S.1, fun j => if j < i then false else S.2.1 j, fun j => if j < i then false else S.2.2.1 j, S.2.2.2)
theorem ssA_s {S : sS} {i : Nat} {σ : mc_G} (h : cSts (S.1, va_up (ssA S i).2.1 i false, va_up (ssA S i).2.2.1 i false, S.2.2.2) σ) : cSts (ssA S (i + 1)) σ := by
  refine h.cg (fun j _ => rfl) (fun j _ => ?_) (fun j _ => ?_) rfl
  · unfold ssA va_up
    by_cases e : j = i
    · simp [e]
    · by_cases e2 : j < i
      · simp [e, e2, show j < i + 1 by omega]
      · simp [e, e2, show ¬ j < i + 1 by omega]
  · unfold ssA va_up
    by_cases e : j = i
    · simp [e]
    · by_cases e2 : j < i
      · simp [e, e2, show j < i + 1 by omega]
      · simp [e, e2, show ¬ j < i + 1 by omega]
def s0A (S : sS) : sS := (S.1, fun _ => false, fun _ => false, S.2.2.2)
def srA (P : pT) (T : tT) (S : sS) (k : Nat) : sS := if S.2.2.1 k = true then svA P T (S.1, S.2.1, va_up S.2.2.1 k false, S.2.2.2) k else S
def snR (P : pT) (T : tT) (S : sS) : sS := foR (srA P T) 30 0 (S.1, S.2.1, S.2.2.1, false, S.2.2.2.2)
def swA (P : pT) (T : tT) : Nat → sS → sS
  | 0, S => S
  | n + 1, S => if S.2.2.2.1 = true then swA P T n (snR P T S) else S
set_option maxRecDepth 100000 in
theorem lX7_woA {S : sS} {σ0 : mc_G} {Φ : Option mc_V → mc_G → Prop} : ∀ (n i : Nat) (x1 : Int32), x1 = nI i → i + n = 31 → ∀ (σ : mc_G), cSts (ssA S i) σ → offT σ0 σ → (∀ (y1 : Int32) (σ' : mc_G), cSts (s0A S) σ' → offT σ0 σ' → Wp miX7_workOut 28 [(0, .inr (some 17)), (1, .inr (some 11)), (2, .inl y1)] [] σ' Φ) → Wp miX7_workOut 2 [(0, .inr (some 17)), (1, .inr (some 11)), (2, .inl x1)] [] σ Φ := by
  intro n
  induction n with
  | zero =>
    intro i x1 hz1 hin σ hS ho k
    iterate 3 refine Wp.go rfl ?_
    refine Wp.geN (a := i) (b := 30) hz1 (rfl : _ = nI 30) (by omega) (by omega) (fun (h1 : ¬ i < 30) => ?_) (fun (h1 : i < 30) => ?_)
    · exact k _ _ (hS.cg (fun j hj => rfl) (fun j hj => by unfold ssA; simp [show j < i by omega]; rfl) (fun j hj => by unfold ssA; simp [show j < i by omega]; rfl) rfl) ho
    · exfalso; omega
  | succ n ih =>
    intro i x1 hz1 hin σ hS ho k
    iterate 3 refine Wp.go rfl ?_
    refine Wp.geN (a := i) (b := 30) hz1 (rfl : _ = nI 30) (by omega) (by omega) (fun (h1 : ¬ i < 30) => ?_) (fun (h1 : i < 30) => ?_)
    · first | (exfalso; omega) | exact k _ _ (hS.cg (fun j hj => rfl) (fun j hj => by unfold ssA; simp [show j < i by omega]; rfl) (fun j hj => by unfold ssA; simp [show j < i by omega]; rfl) rfl) ho
    · iterate 4 refine Wp.go rfl ?_
      refine Wp.go (if_pos ⟨(show 82 < 187 by decide), rfl, (inE (n := 30) hz1 (by omega)), Or.inl rfl⟩) ?_
      iterate 4 refine Wp.go rfl ?_
      refine Wp.go (if_pos ⟨(show 83 < 187 by decide), rfl, (inE (n := 30) hz1 (by omega)), Or.inl rfl⟩) ?_
      iterate 2 refine Wp.go rfl ?_
      have hz := ssA_s (S := S) (i := i) (((((hS).rch hz1 (by omega) (rfl : _ = bI false)).1).wai hz1 (by omega) (rfl : _ = bI false)).1)
      refine Wp.lo (lo := [(0, .inr (some 17)), (1, .inr (some 11)), (2, .inl _)]) ⟨rfl, rfl, rfl, trivial⟩ ?_
      exact ih (i + 1) _ (nE_add hz1 (rfl : _ = nI 1)) (by omega) _ hz (ho.tr (((offT.rf).tr ((hS).rch hz1 (by omega) (rfl : _ = bI false)).2).tr ((((hS).rch hz1 (by omega) (rfl : _ = bI false)).1).wai hz1 (by omega) (rfl : _ = bI false)).2)) k
set_option maxRecDepth 100000 in
theorem lX7_woC {P : pT} {T : tT} (hO1 : pn P ≤ 30 ∧ qn P ≤ 4) (hp20 : ∀ k, k < pn P → po P k ≤ 20) (hB : ∀ j, j < qn P → qf P j < qt P j ∧ qt P j ≤ 30 ∧ qa P j < 30 ∧ qk P j < 8) (hN : pNum P) (hO : tOk T) {J : sS → Prop} (hJ1 : ∀ S k, J S → k < 30 → S.2.2.1 k = true → ppA P T k (S.1 k)) (hJ2 : ∀ S k, J S → k < 30 → S.2.2.1 k = true → J (svA P T (S.1, S.2.1, va_up S.2.2.1 k false, S.2.2.2) k)) (hJ3 : ∀ S, J S → J (S.1, S.2.1, S.2.2.1, false, S.2.2.2.2)) {σ0 : mc_G} {Φ : Option mc_V → mc_G → Prop} {x1 : Int32} : ∀ (n i : Nat) (x2 : Int32), x2 = nI i → i + n = 30 → ∀ (S : sS) (σ : mc_G), cSts S σ → J S → cCode P σ → cTyp T σ → cSta σ → offT σ0 σ → (∀ (y2 : Int32) (σ' : mc_G), cSts (foR (srA P T) n i S) σ' → J (foR (srA P T) n i S) → cCode P σ' → cTyp T σ' → cSta σ' → offT σ0 σ' → Wp miX7_workOut 89 [(0, .inr (some 17)), (1, .inr (some 11)), (2, .inl x1), (3, .inl y2)] [] σ' Φ) → Wp miX7_workOut 56 [(0, .inr (some 17)), (1, .inr (some 11)), (2, .inl x1), (3, .inl x2)] [] σ Φ := by
  intro n
  induction n with
  | zero =>
    intro i x2 hz2 hin S σ hS hj hP hT hA ho k
    iterate 3 refine Wp.go rfl ?_
    refine Wp.geN (a := i) (b := 30) hz2 (rfl : _ = nI 30) (by omega) (by omega) (fun (h1 : ¬ i < 30) => ?_) (fun (h1 : i < 30) => ?_)
    · exact k _ _ hS hj hP hT hA ho
    · exfalso; omega
  | succ n ih =>
    intro i x2 hz2 hin S σ hS hj hP hT hA ho k
    iterate 3 refine Wp.go rfl ?_
    refine Wp.geN (a := i) (b := 30) hz2 (rfl : _ = nI 30) (by omega) (by omega) (fun (h1 : ¬ i < 30) => ?_) (fun (h1 : i < 30) => ?_)
    · exfalso; omega
    · iterate 3 refine Wp.go rfl ?_
      refine Wp.go (if_pos ⟨rfl, rfl, (inE (n := 30) hz2 (by omega))⟩) ?_
      refine Wp.go rfl ?_
      refine Wp.beqE (rdE hz2 (by omega) ((hS).1 i (by omega)).2.2) (fun (h2 : (S.2.2.1 i) = false) => ?_) (fun (h2 : (S.2.2.1 i) = true) => ?_)
      · iterate 2 refine Wp.go rfl ?_
        have e1 : foR (srA P T) (n + 1) i S = foR (srA P T) n (i + 1) S := by show foR (srA P T) n (i + 1) (srA P T S i) = _; unfold srA; rw [if_neg (by rw [h2]; decide)]
        rw [e1] at k
        have hoz := @offT.rf σ
        refine Wp.lo (lo := [(0, .inr (some 17)), (1, .inr (some 11)), (2, .inl _), (3, .inl _)]) ⟨rfl, rfl, rfl, rfl, trivial⟩ ?_
        exact ih (i + 1) _ (nE_add hz2 (rfl : _ = nI 1)) (by omega) _ _ (hS) hj (hP.oT hoz) (hT.oT hoz) (hA.oT hoz) (ho.tr hoz) k
      · iterate 4 refine Wp.go rfl ?_
        refine Wp.go (if_pos ⟨(show 83 < 187 by decide), rfl, (inE (n := 30) hz2 (by omega)), Or.inl rfl⟩) ?_
        iterate 2 refine Wp.go rfl ?_
        refine Wp.call rfl cqX7_leave (sX7_leave hO1 hp20 hB hN hO hz2 (by omega) (((hS).wai hz2 (by omega) (rfl : _ = bI false)).1) (hP.oT ((offT.rf).tr ((hS).wai hz2 (by omega) (rfl : _ = bI false)).2)) (hT.oT ((offT.rf).tr ((hS).wai hz2 (by omega) (rfl : _ = bI false)).2)) (hA.oT ((offT.rf).tr ((hS).wai hz2 (by omega) (rfl : _ = bI false)).2)) (hJ1 S i hj (by omega) h2)) (fun rv1 s1 hq1 => ?_)
        obtain ⟨rfl, hS1, ho1⟩ := hq1
        iterate 2 refine Wp.go rfl ?_
        have e1 : foR (srA P T) (n + 1) i S = foR (srA P T) n (i + 1) (svA P T ((S.1, S.2.1, va_up S.2.2.1 i false, S.2.2.2)) i) := by show foR (srA P T) n (i + 1) (srA P T S i) = _; unfold srA; rw [if_pos h2]
        rw [e1] at k
        have hoz := ((offT.rf).tr ((hS).wai hz2 (by omega) (rfl : _ = bI false)).2).tr ho1
        refine Wp.lo (lo := [(0, .inr (some 17)), (1, .inr (some 11)), (2, .inl _), (3, .inl _)]) ⟨rfl, rfl, rfl, rfl, trivial⟩ ?_
        exact ih (i + 1) _ (nE_add hz2 (rfl : _ = nI 1)) (by omega) _ _ (hS1) (hJ2 S i hj (by omega) h2) (hP.oT hoz) (hT.oT hoz) (hA.oT hoz) (ho.tr hoz) k
set_option maxRecDepth 100000 in
theorem lX7_woB {P : pT} {T : tT} (hO1 : pn P ≤ 30 ∧ qn P ≤ 4) (hp20 : ∀ k, k < pn P → po P k ≤ 20) (hB : ∀ j, j < qn P → qf P j < qt P j ∧ qt P j ≤ 30 ∧ qa P j < 30 ∧ qk P j < 8) (hN : pNum P) (hO : tOk T) {J : sS → Prop} (hJ1 : ∀ S k, J S → k < 30 → S.2.2.1 k = true → ppA P T k (S.1 k)) (hJ2 : ∀ S k, J S → k < 30 → S.2.2.1 k = true → J (svA P T (S.1, S.2.1, va_up S.2.2.1 k false, S.2.2.2) k)) (hJ3 : ∀ S, J S → J (S.1, S.2.1, S.2.2.1, false, S.2.2.2.2)) {σ0 : mc_G} : ∀ (n i : Nat) (x1 : Int32), x1 = nI i → i + n = 100000 → ∀ (S : sS) (σ : mc_G), cSts S σ → J S → cCode P σ → cTyp T σ → cSta σ → offT σ0 σ → Wp miX7_workOut 36 [(0, .inr (some 17)), (1, .inr (some 11)), (2, .inl x1)] [] σ (fun rv σ' => rv = none ∧ cSts (swA P T n S) σ' ∧ J (swA P T n S) ∧ offT σ0 σ') := by
  intro n
  induction n with
  | zero =>
    intro i x1 hz1 hin S σ hS hj hP hT hA ho
    iterate 3 refine Wp.go rfl ?_
    refine Wp.geN (a := i) (b := 100000) hz1 (rfl : _ = nI 100000) (by omega) (by omega) (fun (h1 : ¬ i < 100000) => ?_) (fun (h1 : i < 100000) => ?_)
    · refine Wp.ret rfl ?_
      exact ⟨rfl, hS, hj, ho⟩
    · exfalso; omega
  | succ n ih =>
    intro i x1 hz1 hin S σ hS hj hP hT hA ho
    iterate 3 refine Wp.go rfl ?_
    refine Wp.geN (a := i) (b := 100000) hz1 (rfl : _ = nI 100000) (by omega) (by omega) (fun (h1 : ¬ i < 100000) => ?_) (fun (h1 : i < 100000) => ?_)
    · refine Wp.ret rfl ?_
      first | (exfalso; omega) | (refine ⟨rfl, ?_, ?_, ho⟩; show cSts (if S.2.2.2.1 = true then swA P T n (snR P T S) else S) σ; rw [if_neg (by rw [h2]; decide)]; exact hS; show J (if S.2.2.2.1 = true then swA P T n (snR P T S) else S); rw [if_neg (by rw [h2]; decide)]; exact hj)
    · iterate 3 refine Wp.go rfl ?_
      refine Wp.beqE (hS).2.1 (fun (h2 : S.2.2.2.1 = false) => ?_) (fun (h2 : S.2.2.2.1 = true) => ?_)
      · refine Wp.ret rfl ?_
        first | (exfalso; omega) | (refine ⟨rfl, ?_, ?_, ho⟩; show cSts (if S.2.2.2.1 = true then swA P T n (snR P T S) else S) σ; rw [if_neg (by rw [h2]; decide)]; exact hS; show J (if S.2.2.2.1 = true then swA P T n (snR P T S) else S); rw [if_neg (by rw [h2]; decide)]; exact hj)
      · iterate 2 refine Wp.go rfl ?_
        refine Wp.go rfl ?_
        iterate 2 refine Wp.go rfl ?_
        have hoz := (offT.rf).tr ((hS).chg (rfl : _ = bI false)).2
        refine Wp.lo (lo := [(0, .inr (some 17)), (1, .inr (some 11)), (2, .inl _), (3, .inl _)]) ⟨rfl, rfl, rfl, rfl, trivial⟩ ?_
        refine lX7_woC hO1 hp20 hB hN hO hJ1 hJ2 hJ3 30 0 _ (rfl : _ = nI 0) rfl _ _ (((hS).chg (rfl : _ = bI false)).1) (hJ3 S hj) (hP.oT hoz) (hT.oT hoz) (hA.oT hoz) (ho.tr hoz) (fun y2 s1 hS1 hj1 hP1 hT1 hA1 ho1 => ?_)
        have e1 : swA P T (n + 1) S = swA P T n (snR P T S) := by show (if S.2.2.2.1 = true then swA P T n (snR P T S) else S) = _; rw [if_pos h2]
        rw [e1]
        iterate 2 refine Wp.go rfl ?_
        refine Wp.lo (lo := [(0, .inr (some 17)), (1, .inr (some 11)), (2, .inl _)]) ⟨rfl, rfl, rfl, trivial⟩ ?_
        exact ih (i + 1) _ (nE_add hz1 (rfl : _ = nI 1)) (by omega) _ _ hS1 hj1 hP1 hT1 hA1 ho1
set_option maxRecDepth 100000 in
theorem sX7_workOut {P : pT} {T : tT} (hO1 : pn P ≤ 30 ∧ qn P ≤ 4) (hp20 : ∀ k, k < pn P → po P k ≤ 20) (hB : ∀ j, j < qn P → qf P j < qt P j ∧ qt P j ≤ 30 ∧ qa P j < 30 ∧ qk P j < 8) (hN : pNum P) (hO : tOk T) {J : sS → Prop} (hJ1 : ∀ S k, J S → k < 30 → S.2.2.1 k = true → ppA P T k (S.1 k)) (hJ2 : ∀ S k, J S → k < 30 → S.2.2.1 k = true → J (svA P T (S.1, S.2.1, va_up S.2.2.1 k false, S.2.2.2) k)) (hJ3 : ∀ S, J S → J (S.1, S.2.1, S.2.2.1, false, S.2.2.2.2)) {S : sS} {e : cS} {σ : mc_G} (hS : cSts S σ) (hP : cCode P σ) (hT : cTyp T σ) (hA : cSta σ) (he : cCel 11 e σ) (hJ0 : J (mtA T (pn P) (s0A S) 0 e)) : Wp miX7_workOut 0 [(0, .inr (some 17)), (1, .inr (some 11))] [] σ (fun rv σ' => rv = none ∧ cSts (swA P T 100000 (mtA T (pn P) (s0A S) 0 e)) σ' ∧ J (swA P T 100000 (mtA T (pn P) (s0A S) 0 e)) ∧ offT σ σ') := by
  iterate 2 refine Wp.go rfl ?_
  refine Wp.lo (lo := [(0, .inr (some 17)), (1, .inr (some 11)), (2, .inl _)]) ⟨rfl, rfl, rfl, trivial⟩ ?_
  refine lX7_woA (S := S) (σ0 := σ) 31 0 _ (rfl : _ = nI 0) rfl σ (hS.cg (fun j _ => rfl) (fun j _ => by simp [ssA]) (fun j _ => by simp [ssA]) rfl) offT.rf (fun y1 s1 hS1 ho1 => ?_)
  have hP1 := hP.oT ho1
  have hT1 := hT.oT ho1
  have he1 : cCel 11 e s1 := he.to (ho1 11 (by decide) (by decide)) (ho1 12 (by decide) (by decide))
  iterate 3 refine Wp.go rfl ?_
  refine Wp.call rfl cqX7_meet (sX7_meet (k := 0) hP1 hO1 hT1 hO hS1 (rfl : _ = nI 0) (by omega) (Or.inr rfl) isC_11 he1) (fun rv2 s2 hq2 => ?_)
  obtain ⟨rfl, hS2, ho2⟩ := hq2
  iterate 2 refine Wp.go rfl ?_
  refine Wp.lo (lo := [(0, .inr (some 17)), (1, .inr (some 11)), (2, .inl _)]) ⟨rfl, rfl, rfl, trivial⟩ ?_
  exact lX7_woB hO1 hp20 hB hN hO hJ1 hJ2 hJ3 100000 0 _ (rfl : _ = nI 0) rfl _ _ hS2 hJ0 (hP1.oT ho2) (hT1.oT ho2) ((hA.oT ho1).oT ho2) (ho1.tr ho2)

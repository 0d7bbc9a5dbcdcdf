def crS (n : Nat) (S : sS) (a k : Nat) : Nat := a + (if (decide (k < n) && S.2.1 k) = true then 1 else 0)
def fuF (P : pT) (T : tT) (S : sS) : Nat → Nat → Int32
  | 0, _ => -1
  | n + 1, i => if (decide (i < pn P) && S.2.1 i) = true ∧ suA T (opA P i) (nuN P i) (S.1 i) = false then nI i else fuF P T S n (i + 1)
set_option maxRecDepth 100000 in
theorem lX7_cr {P : pT} {T : tT} {S : sS} {σ : mc_G} (hP : cCode P σ) (hO1 : pn P ≤ 30 ∧ qn P ≤ 4) (hT : cTyp T σ) (hO : tOk T) (hS : cSts S σ) : ∀ (n i : Nat) (x2 : Int32), x2 = nI i → i + n = pn P → ∀ (a : Nat) (x1 : Int32), x1 = nI a → a ≤ i → Wp miX7_countReached 4 [(0, .inr (some 17)), (1, .inl x1), (2, .inl x2)] [] σ (fun rv σ' => rv = some (.inl (nI (foR (crS (pn P) S) n i a))) ∧ σ' = σ) := by
  intro n
  induction n with
  | zero =>
    intro i x2 hz2 hin a x1 hz1 hai
    iterate 3 refine Wp.go rfl ?_
    refine Wp.call rfl cqX1_size (sX1_size (σ := σ) hP hO1) (fun rv1 s1 hq1 => ?_)
    obtain ⟨rfl, hq1⟩ := hq1
    replace hq1 := hq1.symm
    subst hq1
    refine Wp.go rfl ?_
    refine Wp.geN (a := i) (b := pn P) hz2 rfl (by omega) (by omega) (fun (h1 : ¬ i < pn P) => ?_) (fun (h1 : i < pn P) => ?_)
    · refine Wp.go rfl ?_
      refine Wp.ret rfl ?_
      exact ⟨rvN hz1 rfl, rfl⟩
    · exfalso; omega
  | succ n ih =>
    intro i x2 hz2 hin a x1 hz1 hai
    iterate 3 refine Wp.go rfl ?_
    refine Wp.call rfl cqX1_size (sX1_size (σ := σ) hP hO1) (fun rv1 s1 hq1 => ?_)
    obtain ⟨rfl, hq1⟩ := hq1
    replace hq1 := hq1.symm
    subst hq1
    refine Wp.go rfl ?_
    refine Wp.geN (a := i) (b := pn P) hz2 rfl (by omega) (by omega) (fun (h1 : ¬ i < pn P) => ?_) (fun (h1 : i < pn P) => ?_)
    · refine Wp.go rfl ?_
      refine Wp.ret rfl ?_
      first | (exfalso; omega) | exact ⟨rvN hz1 rfl, rfl⟩
    · iterate 3 refine Wp.go rfl ?_
      refine Wp.call rfl cqX7_isReached (sX7_isReached (σ := σ) hP hO1 hT hO hS hz2 (by omega)) (fun rv2 s2 hq2 => ?_)
      obtain ⟨rfl, hq2⟩ := hq2
      replace hq2 := hq2.symm
      subst hq2
      refine Wp.go rfl ?_
      refine Wp.beqE rfl (fun (h2 : (decide (i < pn P) && S.2.1 i) = false) => ?_) (fun (h2 : (decide (i < pn P) && S.2.1 i) = true) => ?_)
      · iterate 5 refine Wp.go rfl ?_
        have e1 : foR (crS (pn P) S) (n + 1) i a = foR (crS (pn P) S) n (i + 1) (a + 0) := by show foR (crS (pn P) S) n (i + 1) (crS (pn P) S a i) = _; congr 1; simp [crS, h2]
        rw [e1]
        refine Wp.lo (lo := [(0, .inr (some 17)), (1, .inl _), (2, .inl _)]) ⟨rfl, rfl, rfl, trivial⟩ ?_
        exact ih (i + 1) _ (nE_add hz2 (rfl : _ = nI 1)) (by omega) _ _ (nE_add hz1 (rfl : _ = nI 0)) (by omega)
      · iterate 6 refine Wp.go rfl ?_
        have e1 : foR (crS (pn P) S) (n + 1) i a = foR (crS (pn P) S) n (i + 1) (a + 1) := by show foR (crS (pn P) S) n (i + 1) (crS (pn P) S a i) = _; congr 1; simp [crS, h2]
        rw [e1]
        refine Wp.lo (lo := [(0, .inr (some 17)), (1, .inl _), (2, .inl _)]) ⟨rfl, rfl, rfl, trivial⟩ ?_
        exact ih (i + 1) _ (nE_add hz2 (rfl : _ = nI 1)) (by omega) _ _ (nE_add hz1 (rfl : _ = nI 1)) (by omega)
set_option maxRecDepth 100000 in
theorem sX7_countReached {P : pT} {T : tT} {S : sS} {σ : mc_G} (hP : cCode P σ) (hO1 : pn P ≤ 30 ∧ qn P ≤ 4) (hT : cTyp T σ) (hO : tOk T) (hS : cSts S σ) : Wp miX7_countReached 0 [(0, .inr (some 17))] [] σ (fun rv σ' => rv = some (.inl (nI (foR (crS (pn P) S) (pn P) 0 0))) ∧ σ' = σ) := by
  iterate 4 refine Wp.go rfl ?_
  refine Wp.lo (lo := [(0, .inr (some 17)), (1, .inl _), (2, .inl _)]) ⟨rfl, rfl, rfl, trivial⟩ ?_
  exact lX7_cr hP hO1 hT hO hS (pn P) 0 _ (rfl : _ = nI 0) (by omega) 0 _ (rfl : _ = nI 0) (by omega)
set_option maxRecDepth 100000 in
theorem lX7_fu {P : pT} {T : tT} {S : sS} {σ : mc_G} (hP : cCode P σ) (hO1 : pn P ≤ 30 ∧ qn P ≤ 4) (hT : cTyp T σ) (hO : tOk T) (hS : cSts S σ) (hp20 : ∀ k, k < pn P → po P k ≤ 20) (hN : pNum P) : ∀ (n i : Nat) (x2 : Int32), x2 = nI i → i + n = pn P → Wp miX7_firstUnsuited 2 [(0, .inr (some 17)), (1, .inl x2)] [] σ (fun rv σ' => rv = some (.inl (fuF P T S n i)) ∧ σ' = σ) := by
  intro n
  induction n with
  | zero =>
    intro i x2 hz2 hin
    iterate 3 refine Wp.go rfl ?_
    refine Wp.call rfl cqX1_size (sX1_size (σ := σ) hP hO1) (fun rv1 s1 hq1 => ?_)
    obtain ⟨rfl, hq1⟩ := hq1
    replace hq1 := hq1.symm
    subst hq1
    refine Wp.go rfl ?_
    refine Wp.geN (a := i) (b := pn P) hz2 rfl (by omega) (by omega) (fun (h1 : ¬ i < pn P) => ?_) (fun (h1 : i < pn P) => ?_)
    · refine Wp.go rfl ?_
      refine Wp.ret rfl ?_
      exact ⟨rfl, rfl⟩
    · exfalso; omega
  | succ n ih =>
    intro i x2 hz2 hin
    iterate 3 refine Wp.go rfl ?_
    refine Wp.call rfl cqX1_size (sX1_size (σ := σ) hP hO1) (fun rv1 s1 hq1 => ?_)
    obtain ⟨rfl, hq1⟩ := hq1
    replace hq1 := hq1.symm
    subst hq1
    refine Wp.go rfl ?_
    refine Wp.geN (a := i) (b := pn P) hz2 rfl (by omega) (by omega) (fun (h1 : ¬ i < pn P) => ?_) (fun (h1 : i < pn P) => ?_)
    · refine Wp.go rfl ?_
      refine Wp.ret rfl ?_
      first | (exfalso; omega) | (have e1 : fuF P T S (n + 1) i = nI i := (by show (if _ then _ else _) = _; rw [if_pos ⟨h2, h3⟩]); rw [e1]; exact ⟨rvN hz2 rfl, rfl⟩)
    · iterate 2 refine Wp.go rfl ?_
      refine Wp.call rfl cqX7_isReached (sX7_isReached (σ := σ) hP hO1 hT hO hS hz2 (by omega)) (fun rv2 s2 hq2 => ?_)
      obtain ⟨rfl, hq2⟩ := hq2
      replace hq2 := hq2.symm
      subst hq2
      refine Wp.go rfl ?_
      refine Wp.beqE rfl (fun (h2 : (decide (i < pn P) && S.2.1 i) = false) => ?_) (fun (h2 : (decide (i < pn P) && S.2.1 i) = true) => ?_)
      · iterate 2 refine Wp.go rfl ?_
        have e1 : fuF P T S (n + 1) i = fuF P T S n (i + 1) := by show (if _ then _ else _) = _; rw [if_neg (fun z => by rw [h2] at z; cases z.1)]
        rw [e1]
        refine Wp.lo (lo := [(0, .inr (some 17)), (1, .inl _)]) ⟨rfl, rfl, trivial⟩ ?_
        exact ih (i + 1) _ (nE_add hz2 (rfl : _ = nI 1)) (by omega)
      · iterate 4 refine Wp.go rfl ?_
        refine Wp.call rfl cqX7_row (sX7_row (σ := σ) hz2 (by omega)) (fun rv3 s3 hq3 => ?_)
        obtain ⟨rfl, hq3⟩ := hq3
        replace hq3 := hq3.symm
        subst hq3
        refine Wp.go rfl ?_
        refine Wp.call rfl cqX5_suits (sX5_suits (q := nuN P i) hP hO1 hp20 hT hO (isC_row (by omega)) (hS.1 i (by omega)).1 hz2 (by omega) (hN.1 i)) (fun rv4 s4 hq4 => ?_)
        obtain ⟨rfl, hq4⟩ := hq4
        replace hq4 := hq4.symm
        subst hq4
        refine Wp.go rfl ?_
        refine Wp.bneE rfl (fun (h3 : (suA T (opA P i) (nuN P i) (S.1 i)) = true) => ?_) (fun (h3 : (suA T (opA P i) (nuN P i) (S.1 i)) = false) => ?_)
        · iterate 2 refine Wp.go rfl ?_
          have e1 : fuF P T S (n + 1) i = fuF P T S n (i + 1) := by show (if _ then _ else _) = _; rw [if_neg (fun z => by rw [h3] at z; cases z.2)]
          rw [e1]
          refine Wp.lo (lo := [(0, .inr (some 17)), (1, .inl _)]) ⟨rfl, rfl, trivial⟩ ?_
          exact ih (i + 1) _ (nE_add hz2 (rfl : _ = nI 1)) (by omega)
        · refine Wp.go rfl ?_
          refine Wp.ret rfl ?_
          first | (exfalso; omega) | (have e1 : fuF P T S (n + 1) i = nI i := (by show (if _ then _ else _) = _; rw [if_pos ⟨h2, h3⟩]); rw [e1]; exact ⟨rvN hz2 rfl, rfl⟩)
set_option maxRecDepth 100000 in
theorem sX7_firstUnsuited {P : pT} {T : tT} {S : sS} {σ : mc_G} (hP : cCode P σ) (hO1 : pn P ≤ 30 ∧ qn P ≤ 4) (hT : cTyp T σ) (hO : tOk T) (hS : cSts S σ) (hp20 : ∀ k, k < pn P → po P k ≤ 20) (hN : pNum P) : Wp miX7_firstUnsuited 0 [(0, .inr (some 17))] [] σ (fun rv σ' => rv = some (.inl (fuF P T S (pn P) 0)) ∧ σ' = σ) := by
  iterate 2 refine Wp.go rfl ?_
  refine Wp.lo (lo := [(0, .inr (some 17)), (1, .inl _)]) ⟨rfl, rfl, trivial⟩ ?_
  exact lX7_fu hP hO1 hT hO hS hp20 hN (pn P) 0 _ (rfl : _ = nI 0) (by omega)

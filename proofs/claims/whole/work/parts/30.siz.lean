set_option maxRecDepth 100000 in
theorem sX6_seenAt {P : pT} {Z : zS} {σ : mc_G} (hP : cCode P σ) (hO1 : pn P ≤ 30 ∧ qn P ≤ 4) (hp20 : ∀ k, k < pn P → po P k ≤ 20) (hZ : cSiz Z σ) {x : Int32} {k : Nat} (hx : x = nI k) (hk : k ≤ 30) : Wp miX6_seenAt 0 [(0, .inr (some 13)), (1, .inl x)] [] σ (fun rv σ' => rv = some (.inl (nI (snA (pn P) Z k))) ∧ σ' = σ) := by
  iterate 3 refine Wp.go rfl ?_
  refine Wp.call rfl cqX1_has (sX1_has (σ := σ) hP hO1 hx (by omega)) (fun rv1 s1 hq1 => ?_)
  obtain ⟨rfl, hq1⟩ := hq1
  replace hq1 := hq1.symm
  subst hq1
  refine Wp.go rfl ?_
  refine Wp.beqD (p := k < pn P) rfl (fun (h1 : ¬ (k < pn P)) => ?_) (fun (h1 : k < pn P) => ?_)
  · refine Wp.go rfl ?_
    refine Wp.ret rfl ?_
    exact ⟨rvN (rfl : _ = nI 0) (by simp [snA, h1]), rfl⟩
  · iterate 3 refine Wp.go rfl ?_
    refine Wp.go (if_pos ⟨rfl, rfl, (inE (n := 30) hx (by omega))⟩) ?_
    refine Wp.go rfl ?_
    refine Wp.ret rfl ?_
    exact ⟨rvN (rdE hx (by omega) (hZ.1 k (by omega)).1) (by simp [snA, h1]), rfl⟩
set_option maxRecDepth 100000 in
theorem sX6_comesWith {P : pT} {Z : zS} {σ : mc_G} (hP : cCode P σ) (hO1 : pn P ≤ 30 ∧ qn P ≤ 4) (hp20 : ∀ k, k < pn P → po P k ≤ 20) (hZ : cSiz Z σ) {x : Int32} {k : Nat} (hx : x = nI k) (hk : k ≤ 30) {y : Int32} {s : Nat} (hy : y = nI s) (hs : s ≤ 6) : Wp miX6_comesWith 0 [(0, .inr (some 13)), (1, .inl x), (2, .inl y)] [] σ (fun rv σ' => rv = some (.inl (bI ((snA (pn P) Z k).testBit s))) ∧ σ' = σ) := by
  have hm : snA (pn P) Z k < 128 := by unfold snA; split; exact (hZ.1 k (by omega)).2.1; decide
  have hb := bt_lt hm hs
  have hb0 := bt_0 hm hs
  iterate 2 refine Wp.go rfl ?_
  refine Wp.call rfl cqX6_seenAt (sX6_seenAt (σ := σ) hP hO1 hp20 hZ hx (by omega)) (fun rv1 s1 hq1 => ?_)
  obtain ⟨rfl, hq1⟩ := hq1
  replace hq1 := hq1.symm
  subst hq1
  iterate 5 refine Wp.go rfl ?_
  refine Wp.eqN (a := (snA (pn P) Z k) &&& 2 ^ s) (b := 0) (nE_and rfl (nE_sh (rfl : _ = nI 1) hy (by omega))) (rfl : _ = nI 0) (by omega) (by omega) (fun (h1 : (snA (pn P) Z k) &&& 2 ^ s = 0) => ?_) (fun (h1 : ¬ (snA (pn P) Z k) &&& 2 ^ s = 0) => ?_)
  · refine Wp.go rfl ?_
    refine Wp.ret rfl ?_
    exact ⟨rv0 (by first | (rw [hb0] at h1; exact h1) | (rw [hb0] at h1; simpa using h1)), rfl⟩
  · iterate 2 refine Wp.go rfl ?_
    refine Wp.ret rfl ?_
    exact ⟨rv1 (by first | (rw [hb0] at h1; exact h1) | (rw [hb0] at h1; simpa using h1)), rfl⟩
set_option maxRecDepth 100000 in
theorem sX6_come {P : pT} {Z : zS} {σ : mc_G} (hP : cCode P σ) (hO1 : pn P ≤ 30 ∧ qn P ≤ 4) (hp20 : ∀ k, k < pn P → po P k ≤ 20) (hZ : cSiz Z σ) {x : Int32} {k : Nat} (hx : x = nI k) (hk : k ≤ 30) {y : Int32} {s : Nat} (hy : y = nI s) (hs : s ≤ 6) : Wp miX6_come 0 [(0, .inr (some 13)), (1, .inl x), (2, .inl y)] [] σ (fun rv σ' => rv = none ∧ cSiz (coA (pn P) Z k s) σ' ∧ offS σ σ') := by
  have hb1 : k < pn P → Z.1 k < 128 := fun z => (hZ.1 k (by omega)).2.1
  have hb := fun z => bt_lt (hb1 z) hs
  have hb0 := fun z => bt_0 (hb1 z) hs
  iterate 3 refine Wp.go rfl ?_
  refine Wp.call rfl cqX1_has (sX1_has (σ := σ) hP hO1 hx (by omega)) (fun rv1 s1 hq1 => ?_)
  obtain ⟨rfl, hq1⟩ := hq1
  replace hq1 := hq1.symm
  subst hq1
  refine Wp.go rfl ?_
  refine Wp.beqD (p := k < pn P) rfl (fun (h1 : ¬ (k < pn P)) => ?_) (fun (h1 : k < pn P) => ?_)
  · refine Wp.ret rfl ?_
    refine ⟨rfl, ?_, offS.rf⟩
    have hz := hZ
    unfold coA
    rw [if_neg (fun z => h1 z.1)]
    exact hz
  · iterate 3 refine Wp.go rfl ?_
    refine Wp.go (if_pos ⟨rfl, rfl, (inE (n := 30) hx (by first | omega | (have hz9 := hb h1; omega) | exact (hb h1).1 | exact (hb h1).2.1))⟩) ?_
    iterate 5 refine Wp.go rfl ?_
    refine Wp.neN (a := (Z.1 k) &&& 2 ^ s) (b := 0) (nE_and (rdE hx (by first | omega | (have hz9 := hb h1; omega) | exact (hb h1).1 | exact (hb h1).2.1) (hZ.1 k (by omega)).1) (nE_sh (rfl : _ = nI 1) hy (by omega))) (rfl : _ = nI 0) (by first | omega | (have hz9 := hb h1; omega) | exact (hb h1).1 | exact (hb h1).2.1) (by first | omega | (have hz9 := hb h1; omega) | exact (hb h1).1 | exact (hb h1).2.1) (fun (h2 : ¬ (Z.1 k) &&& 2 ^ s = 0) => ?_) (fun (h2 : (Z.1 k) &&& 2 ^ s = 0) => ?_)
    · refine Wp.ret rfl ?_
      refine ⟨rfl, ?_, offS.rf⟩
      have hz := hZ
      unfold coA
      rw [if_neg (fun z => h2 ((hb0 h1).mpr z.2))]
      exact hz
    · iterate 4 refine Wp.go rfl ?_
      refine Wp.go (if_pos ⟨rfl, rfl, (inE (n := 30) hx (by first | omega | (have hz9 := hb h1; omega) | exact (hb h1).1 | exact (hb h1).2.1))⟩) ?_
      iterate 4 refine Wp.go rfl ?_
      refine Wp.go (if_pos ⟨(show 14 < 187 by decide), rfl, (inE (n := 30) hx (by first | omega | (have hz9 := hb h1; omega) | exact (hb h1).1 | exact (hb h1).2.1))⟩) ?_
      iterate 4 refine Wp.go rfl ?_
      refine Wp.go (if_pos ⟨(show 15 < 187 by decide), rfl, (inE (n := 30) hx (by first | omega | (have hz9 := hb h1; omega) | exact (hb h1).1 | exact (hb h1).2.1)), Or.inr rfl⟩) ?_
      iterate 2 refine Wp.go rfl ?_
      refine Wp.go rfl ?_
      refine Wp.ret rfl ?_
      refine ⟨rfl, ?_, (((offS.rf).tr ((hZ).m hx (by omega) (nE_or (rdE hx (by first | omega | (have hz9 := hb h1; omega) | exact (hb h1).1 | exact (hb h1).2.1) (hZ.1 k (by omega)).1) (nE_sh (rfl : _ = nI 1) hy (by omega))) (by first | omega | (have hz9 := hb h1; omega) | exact (hb h1).1 | exact (hb h1).2.1)).2).tr ((((hZ).m hx (by omega) (nE_or (rdE hx (by first | omega | (have hz9 := hb h1; omega) | exact (hb h1).1 | exact (hb h1).2.1) (hZ.1 k (by omega)).1) (nE_sh (rfl : _ = nI 1) hy (by omega))) (by first | omega | (have hz9 := hb h1; omega) | exact (hb h1).1 | exact (hb h1).2.1)).1).w hx (by omega) (rfl : _ = bI true)).2).tr ((((((hZ).m hx (by omega) (nE_or (rdE hx (by first | omega | (have hz9 := hb h1; omega) | exact (hb h1).1 | exact (hb h1).2.1) (hZ.1 k (by omega)).1) (nE_sh (rfl : _ = nI 1) hy (by omega))) (by first | omega | (have hz9 := hb h1; omega) | exact (hb h1).1 | exact (hb h1).2.1)).1).w hx (by omega) (rfl : _ = bI true)).1).g (rfl : _ = bI true)).2⟩
      have hz := ((((((hZ).m hx (by omega) (nE_or (rdE hx (by first | omega | (have hz9 := hb h1; omega) | exact (hb h1).1 | exact (hb h1).2.1) (hZ.1 k (by omega)).1) (nE_sh (rfl : _ = nI 1) hy (by omega))) (by first | omega | (have hz9 := hb h1; omega) | exact (hb h1).1 | exact (hb h1).2.1)).1).w hx (by omega) (rfl : _ = bI true)).1).g (rfl : _ = bI true)).1
      unfold coA
      rw [if_pos ⟨h1, (hb0 h1).mp h2⟩]
      exact hz
set_option maxRecDepth 100000 in
theorem sX6_fits {P : pT} {Z : zS} {σ : mc_G} (hP : cCode P σ) (hO1 : pn P ≤ 30 ∧ qn P ≤ 4) (hp20 : ∀ k, k < pn P → po P k ≤ 20) (hZ : cSiz Z σ) {x : Int32} {k : Nat} (hx : x = nI k) (hk : k ≤ 30) {y : Int32} {s : Nat} (hy : y = nI s) (hs : s ≤ 6) (hS : cSta σ) : Wp miX6_fits 0 [(0, .inr (some 13)), (1, .inl x), (2, .inl y)] [] σ (fun rv σ' => rv = some (.inl (bI (fiA (opA P k) s))) ∧ σ' = σ) := by
  have hop : opA P k ≤ 20 := by unfold opA; split; exact hp20 k ‹_›; decide
  have htk := tkA_le (opA P k)
  have hgv := gvA_le (opA P k)
  by_cases hst : tkA (opA P k) ≤ s
  · skip
    iterate 4 refine Wp.go rfl ?_
    refine Wp.call rfl cqX1_opAt (sX1_opAt (σ := σ) hP hO1 hx (by omega)) (fun rv1 s1 hq1 => ?_)
    obtain ⟨rfl, hq1⟩ := hq1
    replace hq1 := hq1.symm
    subst hq1
    refine Wp.call rfl cqX11_takes (sX11_takes (σ := σ) hS rfl (by omega)) (fun rv2 s2 hq2 => ?_)
    obtain ⟨rfl, hq2⟩ := hq2
    replace hq2 := hq2.symm
    subst hq2
    iterate 4 refine Wp.go rfl ?_
    refine Wp.ltN (a := s - (tkA (opA P k))) (b := 0) (nE_sub hy rfl (by first | omega | (have := tkA_le (opA P k); have := gvA_le (opA P k); omega))) (rfl : _ = nI 0) (by first | omega | (have := tkA_le (opA P k); have := gvA_le (opA P k); omega)) (by first | omega | (have := tkA_le (opA P k); have := gvA_le (opA P k); omega)) (fun (h1 : s - (tkA (opA P k)) < 0) => ?_) (fun (h1 : ¬ s - (tkA (opA P k)) < 0) => ?_)
    · refine Wp.go rfl ?_
      refine Wp.ret rfl ?_
      exact ⟨rv0 (by simp [fiA]; omega), rfl⟩
    · iterate 4 refine Wp.go rfl ?_
      refine Wp.call rfl cqX1_opAt (sX1_opAt (σ := σ) hP hO1 hx (by omega)) (fun rv3 s3 hq3 => ?_)
      obtain ⟨rfl, hq3⟩ := hq3
      replace hq3 := hq3.symm
      subst hq3
      refine Wp.call rfl cqX11_gives (sX11_gives (σ := σ) hS rfl (by omega)) (fun rv4 s4 hq4 => ?_)
      obtain ⟨rfl, hq4⟩ := hq4
      replace hq4 := hq4.symm
      subst hq4
      iterate 3 refine Wp.go rfl ?_
      refine Wp.gtN (a := (s - (tkA (opA P k))) + (gvA (opA P k))) (b := 6) (nE_add (nE_sub hy rfl (by first | omega | (have := tkA_le (opA P k); have := gvA_le (opA P k); omega))) rfl) (rfl : _ = nI 6) (by first | omega | (have := tkA_le (opA P k); have := gvA_le (opA P k); omega)) (by first | omega | (have := tkA_le (opA P k); have := gvA_le (opA P k); omega)) (fun (h2 : 6 < (s - (tkA (opA P k))) + (gvA (opA P k))) => ?_) (fun (h2 : ¬ 6 < (s - (tkA (opA P k))) + (gvA (opA P k))) => ?_)
      · refine Wp.go rfl ?_
        refine Wp.ret rfl ?_
        exact ⟨rv0 (by simp [fiA]; omega), rfl⟩
      · iterate 2 refine Wp.go rfl ?_
        refine Wp.ret rfl ?_
        exact ⟨rv1 (by simp [fiA]; omega), rfl⟩
  · skip
    iterate 4 refine Wp.go rfl ?_
    refine Wp.call rfl cqX1_opAt (sX1_opAt (σ := σ) hP hO1 hx (by omega)) (fun rv1 s1 hq1 => ?_)
    obtain ⟨rfl, hq1⟩ := hq1
    replace hq1 := hq1.symm
    subst hq1
    refine Wp.call rfl cqX11_takes (sX11_takes (σ := σ) hS rfl (by omega)) (fun rv2 s2 hq2 => ?_)
    obtain ⟨rfl, hq2⟩ := hq2
    replace hq2 := hq2.symm
    subst hq2
    iterate 4 refine Wp.go rfl ?_
    refine Wp.ltI (iE_sub hy rfl) (rfl : _ = nI 0) (fun (h1 : nI s - nI (tkA (opA P k)) < nI 0) => ?_) (fun (h1 : ¬ nI s - nI (tkA (opA P k)) < nI 0) => ?_)
    · refine Wp.go rfl ?_
      refine Wp.ret rfl ?_
      first | exact ⟨rv0 (by simp [fiA]; omega), rfl⟩ | exact absurd (pk_sneg (by omega) (by omega)) h1
    · exact absurd (pk_sneg (by omega) (by omega)) h1
set_option maxRecDepth 100000 in
theorem sX6_goOn {P : pT} {Z : zS} {σ : mc_G} (hP : cCode P σ) (hO1 : pn P ≤ 30 ∧ qn P ≤ 4) (hp20 : ∀ k, k < pn P → po P k ≤ 20) (hZ : cSiz Z σ) {x : Int32} {k : Nat} (hx : x = nI k) (hk : k < 30) {y : Int32} {s : Nat} (hy : y = nI s) (hs : s ≤ 6) {q : Nat} (hju : juA P k = true → nuA P k = nI q ∧ q < 30) (hS : cSta σ) : Wp miX6_goOn 0 [(0, .inr (some 13)), (1, .inl x), (2, .inl y)] [] σ (fun rv σ' => rv = none ∧ cSiz (gnA P q Z k s) σ' ∧ offS σ σ') := by
  iterate 3 refine Wp.go rfl ?_
  refine Wp.call rfl cqX1_goesOn (sX1_goesOn (σ := σ) hP hO1 hx (by omega) hp20) (fun rv1 s1 hq1 => ?_)
  obtain ⟨rfl, hq1⟩ := hq1
  replace hq1 := hq1.symm
  subst hq1
  refine Wp.go rfl ?_
  refine Wp.beqE rfl (fun (h1 : (goA P k) = false) => ?_) (fun (h1 : (goA P k) = true) => ?_)
  · iterate 3 refine Wp.go rfl ?_
    refine Wp.call rfl cqX1_jumps (sX1_jumps (σ := σ) hP hO1 hx (by omega) hp20) (fun rv2 s2 hq2 => ?_)
    obtain ⟨rfl, hq2⟩ := hq2
    replace hq2 := hq2.symm
    subst hq2
    refine Wp.go rfl ?_
    refine Wp.beqE rfl (fun (h2 : (juA P k) = false) => ?_) (fun (h2 : (juA P k) = true) => ?_)
    · refine Wp.ret rfl ?_
      refine ⟨rfl, ?_, offS.rf⟩
      have hz := hZ
      unfold gnA; rw [if_neg (by rw [h2]; decide), if_neg (by rw [h1]; decide)]; exact hz
    · iterate 4 refine Wp.go rfl ?_
      refine Wp.call rfl cqX1_numberAt (sX1_numberAt (σ := σ) hP hO1 hx (by omega)) (fun rv3 s3 hq3 => ?_)
      obtain ⟨rfl, hq3⟩ := hq3
      replace hq3 := hq3.symm
      subst hq3
      refine Wp.go rfl ?_
      refine Wp.call rfl cqX6_come (sX6_come (σ := σ) (Z := Z) hP hO1 hp20 hZ (hju h2).1 (by first | omega | (have := (hju ‹_›).2; omega)) hy (by omega)) (fun rv4 s4 hq4 => ?_)
      obtain ⟨rfl, hZ4, ho4⟩ := hq4
      have hP4 : cCode P s4 := hP.to (fun b hb1 hb2 => ho4 b (by omega) (by omega) (by omega))
      have hS4 : cSta s4 := fun o ho => by rw [ho4 1000 (by omega) (by omega) (by omega), ho4 1001 (by omega) (by omega) (by omega)]; exact hS o ho
      refine Wp.ret rfl ?_
      refine ⟨rfl, ?_, (offS.rf).tr ho4⟩
      have hz := hZ4
      unfold gnA; rw [if_pos h2, if_neg (by rw [h1]; decide)]; exact hz
  · iterate 5 refine Wp.go rfl ?_
    refine Wp.call rfl cqX6_come (sX6_come (σ := σ) (Z := Z) hP hO1 hp20 hZ (nE_add hx (rfl : _ = nI 1)) (by first | omega | (have := (hju ‹_›).2; omega)) hy (by omega)) (fun rv5 s5 hq5 => ?_)
    obtain ⟨rfl, hZ5, ho5⟩ := hq5
    have hP5 : cCode P s5 := hP.to (fun b hb1 hb2 => ho5 b (by omega) (by omega) (by omega))
    have hS5 : cSta s5 := fun o ho => by rw [ho5 1000 (by omega) (by omega) (by omega), ho5 1001 (by omega) (by omega) (by omega)]; exact hS o ho
    iterate 3 refine Wp.go rfl ?_
    refine Wp.call rfl cqX1_jumps (sX1_jumps (σ := s5) hP5 hO1 hx (by omega) hp20) (fun rv6 s6 hq6 => ?_)
    obtain ⟨rfl, hq6⟩ := hq6
    replace hq6 := hq6.symm
    subst hq6
    refine Wp.go rfl ?_
    refine Wp.beqE rfl (fun (h3 : (juA P k) = false) => ?_) (fun (h3 : (juA P k) = true) => ?_)
    · refine Wp.ret rfl ?_
      refine ⟨rfl, ?_, (offS.rf).tr ho5⟩
      have hz := hZ5
      unfold gnA; rw [if_neg (by rw [h3]; decide), if_pos h1]; exact hz
    · iterate 4 refine Wp.go rfl ?_
      refine Wp.call rfl cqX1_numberAt (sX1_numberAt (σ := s5) hP5 hO1 hx (by omega)) (fun rv7 s7 hq7 => ?_)
      obtain ⟨rfl, hq7⟩ := hq7
      replace hq7 := hq7.symm
      subst hq7
      refine Wp.go rfl ?_
      refine Wp.call rfl cqX6_come (sX6_come (σ := s5) (Z := coA (pn P) Z (k + 1) s) hP5 hO1 hp20 hZ5 (hju h3).1 (by first | omega | (have := (hju ‹_›).2; omega)) hy (by omega)) (fun rv8 s8 hq8 => ?_)
      obtain ⟨rfl, hZ8, ho8⟩ := hq8
      have hP8 : cCode P s8 := hP5.to (fun b hb1 hb2 => ho8 b (by omega) (by omega) (by omega))
      have hS8 : cSta s8 := fun o ho => by rw [ho8 1000 (by omega) (by omega) (by omega), ho8 1001 (by omega) (by omega) (by omega)]; exact hS5 o ho
      refine Wp.ret rfl ?_
      refine ⟨rfl, ?_, ((offS.rf).tr ho5).tr ho8⟩
      have hz := hZ8
      unfold gnA; rw [if_pos h3, if_pos h1]; exact hz
theorem stE {P : pT} {j : Nat} (h : j < qn P) : stA P j = nI (qa P j) := by unfold stA; rw [if_pos h]
set_option maxRecDepth 100000 in
theorem lX6_leave2 {P : pT} (hO1 : pn P ≤ 30 ∧ qn P ≤ 4) (hp20 : ∀ k, k < pn P → po P k ≤ 20) (hB : ∀ j, j < qn P → qf P j < qt P j ∧ qt P j ≤ 30 ∧ qa P j < 30 ∧ qk P j < 8) {x : Int32} {k q : Nat} (hx : x = nI k) (hk : k < 30) (hju : juA P k = true → nuA P k = nI q ∧ q < 30) {σ0 : mc_G} : ∀ (n i : Nat) (x2 : Int32), x2 = nI i → i + n = qn P → ∀ (Z : zS) (σ : mc_G), cSiz Z σ → cCode P σ → cSta σ → offS σ0 σ → Wp miX6_leave 64 [(0, .inr (some 13)), (1, .inl x), (2, .inl x2)] [] σ (fun rv σ' => rv = none ∧ cSiz (foR (lhA P k) n i Z) σ' ∧ offS σ0 σ') := by
  intro n
  induction n with
  | zero =>
    intro i x2 hz2 hin Z σ hZ hP hS ho
    iterate 3 refine Wp.go rfl ?_
    refine Wp.call rfl cqX1_handlers (sX1_handlers (σ := σ) hP hO1) (fun rv1 s1 hq1 => ?_)
    obtain ⟨rfl, hq1⟩ := hq1
    replace hq1 := hq1.symm
    subst hq1
    refine Wp.go rfl ?_
    refine Wp.geN (a := i) (b := qn P) hz2 rfl (by omega) (by omega) (fun (h1 : ¬ i < qn P) => ?_) (fun (h1 : i < qn P) => ?_)
    · refine Wp.ret rfl ?_
      exact ⟨rfl, hZ, ho⟩
    · exfalso; omega
  | succ n ih =>
    intro i x2 hz2 hin Z σ hZ hP hS ho
    iterate 3 refine Wp.go rfl ?_
    refine Wp.call rfl cqX1_handlers (sX1_handlers (σ := σ) hP hO1) (fun rv1 s1 hq1 => ?_)
    obtain ⟨rfl, hq1⟩ := hq1
    replace hq1 := hq1.symm
    subst hq1
    refine Wp.go rfl ?_
    refine Wp.geN (a := i) (b := qn P) hz2 rfl (by omega) (by omega) (fun (h1 : ¬ i < qn P) => ?_) (fun (h1 : i < qn P) => ?_)
    · refine Wp.ret rfl ?_
      first | (exfalso; omega) | exact ⟨rfl, hZ, ho⟩
    · iterate 4 refine Wp.go rfl ?_
      refine Wp.call rfl cqX1_covers (sX1_covers (σ := σ) hP hO1 hz2 (by omega) hx (by omega) hB) (fun rv2 s2 hq2 => ?_)
      obtain ⟨rfl, hq2⟩ := hq2
      replace hq2 := hq2.symm
      subst hq2
      refine Wp.go rfl ?_
      refine Wp.beqE rfl (fun (h2 : (cvA P i k) = false) => ?_) (fun (h2 : (cvA P i k) = true) => ?_)
      · iterate 2 refine Wp.go rfl ?_
        have hz := hZ
        have e1 : foR (lhA P k) (n + 1) i Z = foR (lhA P k) n (i + 1) Z := by show foR (lhA P k) n (i + 1) (lhA P k Z i) = _; unfold lhA; rw [if_neg (by rw [h2]; decide)]
        rw [e1]
        refine Wp.lo (lo := [(0, .inr (some 13)), (1, .inl _), (2, .inl _)]) ⟨rfl, rfl, rfl, trivial⟩ ?_
        exact ih (i + 1) _ (nE_add hz2 (rfl : _ = nI 1)) (by omega) _ _ hz hP hS (ho.tr (offS.rf))
      · iterate 4 refine Wp.go rfl ?_
        refine Wp.call rfl cqX1_startOf (sX1_startOf (σ := σ) hP hO1 hz2 (by omega) hB) (fun rv3 s3 hq3 => ?_)
        obtain ⟨rfl, hq3⟩ := hq3
        replace hq3 := hq3.symm
        subst hq3
        refine Wp.go rfl ?_
        refine Wp.call rfl cqX6_come (sX6_come (σ := σ) (Z := Z) hP hO1 hp20 hZ (stE (by omega)) (by first | omega | (have := hB i (by omega); omega)) (rfl : _ = nI 1) (by omega)) (fun rv4 s4 hq4 => ?_)
        obtain ⟨rfl, hZ4, ho4⟩ := hq4
        have hP4 : cCode P s4 := hP.to (fun b hb1 hb2 => ho4 b (by omega) (by omega) (by omega))
        have hS4 : cSta s4 := fun o ho => by rw [ho4 1000 (by omega) (by omega) (by omega), ho4 1001 (by omega) (by omega) (by omega)]; exact hS o ho
        iterate 2 refine Wp.go rfl ?_
        have hz := hZ4
        have e1 : foR (lhA P k) (n + 1) i Z = foR (lhA P k) n (i + 1) (coA (pn P) Z (qa P i) 1) := by show foR (lhA P k) n (i + 1) (lhA P k Z i) = _; unfold lhA; rw [if_pos h2]
        rw [e1]
        refine Wp.lo (lo := [(0, .inr (some 13)), (1, .inl _), (2, .inl _)]) ⟨rfl, rfl, rfl, trivial⟩ ?_
        exact ih (i + 1) _ (nE_add hz2 (rfl : _ = nI 1)) (by omega) _ _ hz hP4 hS4 (ho.tr ((offS.rf).tr ho4))
set_option maxRecDepth 100000 in
theorem lX6_leave1 {P : pT} (hO1 : pn P ≤ 30 ∧ qn P ≤ 4) (hp20 : ∀ k, k < pn P → po P k ≤ 20) (hB : ∀ j, j < qn P → qf P j < qt P j ∧ qt P j ≤ 30 ∧ qa P j < 30 ∧ qk P j < 8) {x : Int32} {k q : Nat} (hx : x = nI k) (hk : k < 30) (hju : juA P k = true → nuA P k = nI q ∧ q < 30) {σ0 : mc_G} : ∀ (n i : Nat) (x2 : Int32), x2 = nI i → i + n = 7 → ∀ (Z : zS) (σ : mc_G), cSiz Z σ → cCode P σ → cSta σ → offS σ0 σ → Wp miX6_leave 2 [(0, .inr (some 13)), (1, .inl x), (2, .inl x2)] [] σ (fun rv σ' => rv = none ∧ cSiz (foR (lhA P k) (qn P) 0 (foR (lsA P q k) n i Z)) σ' ∧ offS σ0 σ') := by
  have hop : opA P k ≤ 20 := by unfold opA; split; exact hp20 k ‹_›; decide
  have htk := tkA_le (opA P k)
  have hgv := gvA_le (opA P k)
  intro n
  induction n with
  | zero =>
    intro i x2 hz2 hin Z σ hZ hP hS ho
    iterate 3 refine Wp.go rfl ?_
    refine Wp.gtN (a := i) (b := 6) hz2 (rfl : _ = nI 6) (by first | omega | (simp only [fiA, Bool.and_eq_true, decide_eq_true_eq] at *; omega)) (by first | omega | (simp only [fiA, Bool.and_eq_true, decide_eq_true_eq] at *; omega)) (fun (h1 : 6 < i) => ?_) (fun (h1 : ¬ 6 < i) => ?_)
    · first | (exfalso; omega) | (iterate 2 refine Wp.go rfl ?_); (refine Wp.lo (lo := [(0, .inr (some 13)), (1, .inl _), (2, .inl _)]) ⟨rfl, rfl, rfl, trivial⟩ ?_); exact lX6_leave2 hO1 hp20 hB hx hk hju (qn P) 0 _ rfl (by omega) Z σ hZ hP hS ho
    · exfalso; omega
  | succ n ih =>
    intro i x2 hz2 hin Z σ hZ hP hS ho
    iterate 3 refine Wp.go rfl ?_
    refine Wp.gtN (a := i) (b := 6) hz2 (rfl : _ = nI 6) (by first | omega | (simp only [fiA, Bool.and_eq_true, decide_eq_true_eq] at *; omega)) (by first | omega | (simp only [fiA, Bool.and_eq_true, decide_eq_true_eq] at *; omega)) (fun (h1 : 6 < i) => ?_) (fun (h1 : ¬ 6 < i) => ?_)
    · first | (exfalso; omega) | (iterate 2 refine Wp.go rfl ?_); (refine Wp.lo (lo := [(0, .inr (some 13)), (1, .inl _), (2, .inl _)]) ⟨rfl, rfl, rfl, trivial⟩ ?_); exact lX6_leave2 hO1 hp20 hB hx hk hju (qn P) 0 _ rfl (by omega) Z σ hZ hP hS ho
    · iterate 3 refine Wp.go rfl ?_
      refine Wp.call rfl cqX6_comesWith (sX6_comesWith (σ := σ) hP hO1 hp20 hZ hx (by omega) hz2 (by omega)) (fun rv1 s1 hq1 => ?_)
      obtain ⟨rfl, hq1⟩ := hq1
      replace hq1 := hq1.symm
      subst hq1
      refine Wp.go rfl ?_
      refine Wp.beqE rfl (fun (h2 : ((snA (pn P) Z k).testBit i) = false) => ?_) (fun (h2 : ((snA (pn P) Z k).testBit i) = true) => ?_)
      · iterate 2 refine Wp.go rfl ?_
        have hz := hZ
        have e1 : foR (lsA P q k) (n + 1) i Z = foR (lsA P q k) n (i + 1) Z := by show foR (lsA P q k) n (i + 1) (lsA P q k Z i) = _; unfold lsA; rw [if_neg (fun z => by rw [h2] at z; cases z.1)]
        rw [e1]
        refine Wp.lo (lo := [(0, .inr (some 13)), (1, .inl _), (2, .inl _)]) ⟨rfl, rfl, rfl, trivial⟩ ?_
        exact ih (i + 1) _ (nE_add hz2 (rfl : _ = nI 1)) (by omega) _ _ hz hP hS (ho.tr (offS.rf))
      · iterate 3 refine Wp.go rfl ?_
        refine Wp.call rfl cqX6_fits (sX6_fits (σ := σ) hP hO1 hp20 hZ hx (by omega) hz2 (by omega) hS) (fun rv2 s2 hq2 => ?_)
        obtain ⟨rfl, hq2⟩ := hq2
        replace hq2 := hq2.symm
        subst hq2
        refine Wp.go rfl ?_
        refine Wp.beqE rfl (fun (h3 : (fiA (opA P k) i) = false) => ?_) (fun (h3 : (fiA (opA P k) i) = true) => ?_)
        · iterate 2 refine Wp.go rfl ?_
          have hz := hZ
          have e1 : foR (lsA P q k) (n + 1) i Z = foR (lsA P q k) n (i + 1) Z := by show foR (lsA P q k) n (i + 1) (lsA P q k Z i) = _; unfold lsA; rw [if_neg (fun z => by rw [h3] at z; cases z.2)]
          rw [e1]
          refine Wp.lo (lo := [(0, .inr (some 13)), (1, .inl _), (2, .inl _)]) ⟨rfl, rfl, rfl, trivial⟩ ?_
          exact ih (i + 1) _ (nE_add hz2 (rfl : _ = nI 1)) (by omega) _ _ hz hP hS (ho.tr (offS.rf))
        · iterate 6 refine Wp.go rfl ?_
          refine Wp.call rfl cqX1_opAt (sX1_opAt (σ := σ) hP hO1 hx (by omega)) (fun rv3 s3 hq3 => ?_)
          obtain ⟨rfl, hq3⟩ := hq3
          replace hq3 := hq3.symm
          subst hq3
          refine Wp.call rfl cqX11_takes (sX11_takes (σ := σ) hS rfl (by omega)) (fun rv4 s4 hq4 => ?_)
          obtain ⟨rfl, hq4⟩ := hq4
          replace hq4 := hq4.symm
          subst hq4
          iterate 4 refine Wp.go rfl ?_
          refine Wp.call rfl cqX1_opAt (sX1_opAt (σ := σ) hP hO1 hx (by omega)) (fun rv5 s5 hq5 => ?_)
          obtain ⟨rfl, hq5⟩ := hq5
          replace hq5 := hq5.symm
          subst hq5
          refine Wp.call rfl cqX11_gives (sX11_gives (σ := σ) hS rfl (by omega)) (fun rv6 s6 hq6 => ?_)
          obtain ⟨rfl, hq6⟩ := hq6
          replace hq6 := hq6.symm
          subst hq6
          refine Wp.go rfl ?_
          refine Wp.call rfl cqX6_goOn (sX6_goOn (σ := σ) (Z := Z) hP hO1 hp20 hZ hx hk (nE_add (nE_sub hz2 rfl (by first | omega | (simp only [fiA, Bool.and_eq_true, decide_eq_true_eq] at *; omega))) rfl) (by first | omega | (simp only [fiA, Bool.and_eq_true, decide_eq_true_eq] at *; omega)) hju hS) (fun rv7 s7 hq7 => ?_)
          obtain ⟨rfl, hZ7, ho7⟩ := hq7
          have hP7 : cCode P s7 := hP.to (fun b hb1 hb2 => ho7 b (by omega) (by omega) (by omega))
          have hS7 : cSta s7 := fun o ho => by rw [ho7 1000 (by omega) (by omega) (by omega), ho7 1001 (by omega) (by omega) (by omega)]; exact hS o ho
          iterate 2 refine Wp.go rfl ?_
          have hz := hZ7
          have e1 : foR (lsA P q k) (n + 1) i Z = foR (lsA P q k) n (i + 1) (gnA P q Z k ((i - (tkA (opA P k))) + (gvA (opA P k)))) := by show foR (lsA P q k) n (i + 1) (lsA P q k Z i) = _; unfold lsA; rw [if_pos ⟨h2, h3⟩]
          rw [e1]
          refine Wp.lo (lo := [(0, .inr (some 13)), (1, .inl _), (2, .inl _)]) ⟨rfl, rfl, rfl, trivial⟩ ?_
          exact ih (i + 1) _ (nE_add hz2 (rfl : _ = nI 1)) (by omega) _ _ hz hP7 hS7 (ho.tr ((offS.rf).tr ho7))
set_option maxRecDepth 100000 in
theorem sX6_leave {P : pT} (hO1 : pn P ≤ 30 ∧ qn P ≤ 4) (hp20 : ∀ k, k < pn P → po P k ≤ 20) (hB : ∀ j, j < qn P → qf P j < qt P j ∧ qt P j ≤ 30 ∧ qa P j < 30 ∧ qk P j < 8) {x : Int32} {k q : Nat} (hx : x = nI k) (hk : k < 30) (hju : juA P k = true → nuA P k = nI q ∧ q < 30) {Z : zS} {σ : mc_G} (hZ : cSiz Z σ) (hP : cCode P σ) (hS : cSta σ) : Wp miX6_leave 0 [(0, .inr (some 13)), (1, .inl x)] [] σ (fun rv σ' => rv = none ∧ cSiz (lvA P q Z k) σ' ∧ offS σ σ') := by
  iterate 2 refine Wp.go rfl ?_
  refine Wp.lo (lo := [(0, .inr (some 13)), (1, .inl _), (2, .inl _)]) ⟨rfl, rfl, rfl, trivial⟩ ?_
  exact lX6_leave1 hO1 hp20 hB hx hk hju 7 0 _ rfl rfl Z σ hZ hP hS offS.rf

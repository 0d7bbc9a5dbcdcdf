set_option maxRecDepth 100000 in
theorem sX1_size {P : pT} {σ : mc_G} (hP : cCode P σ) (hO : pn P ≤ 30 ∧ qn P ≤ 4) : Wp miX1_size 0 [(0, .inr (some 4))] [] σ (fun rv σ' => rv = some (.inl (nI (pn P))) ∧ σ' = σ) := by
  iterate 2 refine Wp.go rfl ?_
  refine Wp.ret rfl ?_
  exact ⟨rvN hP.1 (by rfl), rfl⟩
set_option maxRecDepth 100000 in
theorem sX1_handlers {P : pT} {σ : mc_G} (hP : cCode P σ) (hO : pn P ≤ 30 ∧ qn P ≤ 4) : Wp miX1_handlers 0 [(0, .inr (some 4))] [] σ (fun rv σ' => rv = some (.inl (nI (qn P))) ∧ σ' = σ) := by
  iterate 2 refine Wp.go rfl ?_
  refine Wp.ret rfl ?_
  exact ⟨rvN hP.2.1 (by rfl), rfl⟩
set_option maxRecDepth 100000 in
theorem sX1_has {P : pT} {σ : mc_G} (hP : cCode P σ) (hO : pn P ≤ 30 ∧ qn P ≤ 4) {x : Int32} {k : Nat} (hx : x = nI k) (hk : k < 2 ^ 30) : Wp miX1_has 0 [(0, .inr (some 4)), (1, .inl x)] [] σ (fun rv σ' => rv = some (.inl (bI (decide (k < pn P)))) ∧ σ' = σ) := by
  iterate 2 refine Wp.go rfl ?_
  refine Wp.ltN (a := k) (b := 0) hx (rfl : _ = nI 0) (by omega) (by omega) (fun (h1 : k < 0) => ?_) (fun (h1 : ¬ k < 0) => ?_)
  · refine Wp.go rfl ?_
    refine Wp.ret rfl ?_
    exact ⟨rv0 (by simp; omega), rfl⟩
  · iterate 4 refine Wp.go rfl ?_
    refine Wp.geN (a := k) (b := pn P) hx hP.1 (by omega) (by omega) (fun (h2 : ¬ k < pn P) => ?_) (fun (h2 : k < pn P) => ?_)
    · refine Wp.go rfl ?_
      refine Wp.ret rfl ?_
      exact ⟨rv0 (by simp; omega), rfl⟩
    · iterate 3 refine Wp.go rfl ?_
      refine Wp.geN (a := k) (b := 30) hx (rfl : _ = nI 30) (by omega) (by omega) (fun (h3 : ¬ k < 30) => ?_) (fun (h3 : k < 30) => ?_)
      · refine Wp.go rfl ?_
        refine Wp.ret rfl ?_
        exact ⟨rv0 (by simp; omega), rfl⟩
      · iterate 2 refine Wp.go rfl ?_
        refine Wp.ret rfl ?_
        exact ⟨rv1 (by simp; omega), rfl⟩
set_option maxRecDepth 100000 in
theorem sX1_opAt {P : pT} {σ : mc_G} (hP : cCode P σ) (hO : pn P ≤ 30 ∧ qn P ≤ 4) {x : Int32} {k : Nat} (hx : x = nI k) (hk : k < 2 ^ 30) : Wp miX1_opAt 0 [(0, .inr (some 4)), (1, .inl x)] [] σ (fun rv σ' => rv = some (.inl (nI (opA P k))) ∧ σ' = σ) := by
  iterate 2 refine Wp.go rfl ?_
  refine Wp.call rfl cqX1_has (sX1_has (σ := σ) hP hO hx (by omega)) (fun rv1 s1 hq1 => ?_)
  obtain ⟨rfl, hq1⟩ := hq1
  replace hq1 := hq1.symm
  subst hq1
  refine Wp.go rfl ?_
  refine Wp.beqD (p := k < pn P) rfl (fun (h1 : ¬ (k < pn P)) => ?_) (fun (h1 : k < pn P) => ?_)
  · refine Wp.go rfl ?_
    refine Wp.ret rfl ?_
    exact ⟨rvN (rfl : _ = nI 19) (by simp [opA, h1]), rfl⟩
  · iterate 3 refine Wp.go rfl ?_
    refine Wp.go (if_pos ⟨rfl, rfl, (inE (n := 30) hx (by omega))⟩) ?_
    refine Wp.go rfl ?_
    refine Wp.ret rfl ?_
    exact ⟨rvN (rdE hx (by omega) (hP.2.2.1 k (by omega)).1) (by simp [opA, h1]), rfl⟩
set_option maxRecDepth 100000 in
theorem sX1_numberAt {P : pT} {σ : mc_G} (hP : cCode P σ) (hO : pn P ≤ 30 ∧ qn P ≤ 4) {x : Int32} {k : Nat} (hx : x = nI k) (hk : k < 2 ^ 30) : Wp miX1_numberAt 0 [(0, .inr (some 4)), (1, .inl x)] [] σ (fun rv σ' => rv = some (.inl (nuA P k)) ∧ σ' = σ) := by
  iterate 2 refine Wp.go rfl ?_
  refine Wp.call rfl cqX1_has (sX1_has (σ := σ) hP hO hx (by omega)) (fun rv1 s1 hq1 => ?_)
  obtain ⟨rfl, hq1⟩ := hq1
  replace hq1 := hq1.symm
  subst hq1
  refine Wp.go rfl ?_
  refine Wp.beqD (p := k < pn P) rfl (fun (h1 : ¬ (k < pn P)) => ?_) (fun (h1 : k < pn P) => ?_)
  · refine Wp.go rfl ?_
    refine Wp.ret rfl ?_
    exact ⟨rvI (rfl : _ = nI 0) (by simp [nuA, h1]; try rfl), rfl⟩
  · iterate 3 refine Wp.go rfl ?_
    refine Wp.go (if_pos ⟨rfl, rfl, (inE (n := 30) hx (by omega))⟩) ?_
    refine Wp.go rfl ?_
    refine Wp.ret rfl ?_
    exact ⟨rvI (rdE hx (by omega) (hP.2.2.1 k (by omega)).2) (by simp [nuA, h1]; try rfl), rfl⟩
set_option maxRecDepth 100000 in
theorem sX1_goesOn {P : pT} {σ : mc_G} (hP : cCode P σ) (hO : pn P ≤ 30 ∧ qn P ≤ 4) {x : Int32} {k : Nat} (hx : x = nI k) (hk : k < 2 ^ 30) (hp : ∀ k, k < pn P → po P k ≤ 20) : Wp miX1_goesOn 0 [(0, .inr (some 4)), (1, .inl x)] [] σ (fun rv σ' => rv = some (.inl (bI (goA P k))) ∧ σ' = σ) := by
  have hop : opA P k ≤ 20 := by unfold opA; split; exact hp k ‹_›; decide
  iterate 2 refine Wp.go rfl ?_
  refine Wp.call rfl cqX1_opAt (sX1_opAt (σ := σ) hP hO hx (by omega)) (fun rv1 s1 hq1 => ?_)
  obtain ⟨rfl, hq1⟩ := hq1
  replace hq1 := hq1.symm
  subst hq1
  iterate 2 refine Wp.go rfl ?_
  refine Wp.geN (a := opA P k) (b := 18) rfl (rfl : _ = nI 18) (by omega) (by omega) (fun (h1 : ¬ opA P k < 18) => ?_) (fun (h1 : opA P k < 18) => ?_)
  · refine Wp.go rfl ?_
    refine Wp.ret rfl ?_
    exact ⟨rv0 (by simp [goA]; omega), rfl⟩
  · iterate 2 refine Wp.go rfl ?_
    refine Wp.ret rfl ?_
    exact ⟨rv1 (by simp [goA]; omega), rfl⟩
set_option maxRecDepth 100000 in
theorem sX1_jumps {P : pT} {σ : mc_G} (hP : cCode P σ) (hO : pn P ≤ 30 ∧ qn P ≤ 4) {x : Int32} {k : Nat} (hx : x = nI k) (hk : k < 2 ^ 30) (hp : ∀ k, k < pn P → po P k ≤ 20) : Wp miX1_jumps 0 [(0, .inr (some 4)), (1, .inl x)] [] σ (fun rv σ' => rv = some (.inl (bI (juA P k))) ∧ σ' = σ) := by
  have hop : opA P k ≤ 20 := by unfold opA; split; exact hp k ‹_›; decide
  iterate 2 refine Wp.go rfl ?_
  refine Wp.call rfl cqX1_opAt (sX1_opAt (σ := σ) hP hO hx (by omega)) (fun rv1 s1 hq1 => ?_)
  obtain ⟨rfl, hq1⟩ := hq1
  replace hq1 := hq1.symm
  subst hq1
  iterate 4 refine Wp.go rfl ?_
  refine Wp.ltN (a := opA P k) (b := 16) rfl (rfl : _ = nI 16) (by omega) (by omega) (fun (h1 : opA P k < 16) => ?_) (fun (h1 : ¬ opA P k < 16) => ?_)
  · refine Wp.go rfl ?_
    refine Wp.ret rfl ?_
    exact ⟨rv0 (by simp [juA]; omega), rfl⟩
  · iterate 3 refine Wp.go rfl ?_
    refine Wp.gtN (a := opA P k) (b := 18) rfl (rfl : _ = nI 18) (by omega) (by omega) (fun (h2 : 18 < opA P k) => ?_) (fun (h2 : ¬ 18 < opA P k) => ?_)
    · refine Wp.go rfl ?_
      refine Wp.ret rfl ?_
      exact ⟨rv0 (by simp [juA]; omega), rfl⟩
    · iterate 2 refine Wp.go rfl ?_
      refine Wp.ret rfl ?_
      exact ⟨rv1 (by simp [juA]; omega), rfl⟩
set_option maxRecDepth 100000 in
theorem sX1_hasHandler {P : pT} {σ : mc_G} (hP : cCode P σ) (hO : pn P ≤ 30 ∧ qn P ≤ 4) {y : Int32} {j : Nat} (hy : y = nI j) (hj : j < 2 ^ 30) : Wp miX1_hasHandler 0 [(0, .inr (some 4)), (1, .inl y)] [] σ (fun rv σ' => rv = some (.inl (bI (decide (j < qn P)))) ∧ σ' = σ) := by
  iterate 2 refine Wp.go rfl ?_
  refine Wp.ltN (a := j) (b := 0) hy (rfl : _ = nI 0) (by omega) (by omega) (fun (h1 : j < 0) => ?_) (fun (h1 : ¬ j < 0) => ?_)
  · refine Wp.go rfl ?_
    refine Wp.ret rfl ?_
    exact ⟨rv0 (by simp; omega), rfl⟩
  · iterate 4 refine Wp.go rfl ?_
    refine Wp.geN (a := j) (b := qn P) hy hP.2.1 (by omega) (by omega) (fun (h2 : ¬ j < qn P) => ?_) (fun (h2 : j < qn P) => ?_)
    · refine Wp.go rfl ?_
      refine Wp.ret rfl ?_
      exact ⟨rv0 (by simp; omega), rfl⟩
    · iterate 3 refine Wp.go rfl ?_
      refine Wp.geN (a := j) (b := 4) hy (rfl : _ = nI 4) (by omega) (by omega) (fun (h3 : ¬ j < 4) => ?_) (fun (h3 : j < 4) => ?_)
      · refine Wp.go rfl ?_
        refine Wp.ret rfl ?_
        exact ⟨rv0 (by simp; omega), rfl⟩
      · iterate 2 refine Wp.go rfl ?_
        refine Wp.ret rfl ?_
        exact ⟨rv1 (by simp; omega), rfl⟩
set_option maxRecDepth 100000 in
theorem sX1_covers {P : pT} {σ : mc_G} (hP : cCode P σ) (hO : pn P ≤ 30 ∧ qn P ≤ 4) {y x : Int32} {j k : Nat} (hy : y = nI j) (hj : j < 2 ^ 30) (hx : x = nI k) (hk : k < 2 ^ 30) (hB : ∀ j, j < qn P → qf P j < qt P j ∧ qt P j ≤ 30 ∧ qa P j < 30 ∧ qk P j < 8) : Wp miX1_covers 0 [(0, .inr (some 4)), (1, .inl y), (2, .inl x)] [] σ (fun rv σ' => rv = some (.inl (bI (cvA P j k))) ∧ σ' = σ) := by
  iterate 2 refine Wp.go rfl ?_
  refine Wp.call rfl cqX1_hasHandler (sX1_hasHandler (σ := σ) hP hO hy (by omega)) (fun rv1 s1 hq1 => ?_)
  obtain ⟨rfl, hq1⟩ := hq1
  replace hq1 := hq1.symm
  subst hq1
  refine Wp.go rfl ?_
  refine Wp.beqD (p := j < qn P) rfl (fun (h1 : ¬ (j < qn P)) => ?_) (fun (h1 : j < qn P) => ?_)
  · refine Wp.go rfl ?_
    refine Wp.ret rfl ?_
    exact ⟨rv0 (by simp [cvA]; omega), rfl⟩
  · iterate 4 refine Wp.go rfl ?_
    refine Wp.go (if_pos ⟨rfl, rfl, (inE (n := 4) hy (by first | omega | (have := hB j ‹_›; omega)))⟩) ?_
    refine Wp.go rfl ?_
    refine Wp.ltN (a := k) (b := qf P j) hx (rdE hy (by first | omega | (have := hB j ‹_›; omega)) (hP.2.2.2 j (by omega)).1) (by first | omega | (have := hB j ‹_›; omega)) (by first | omega | (have := hB j ‹_›; omega)) (fun (h2 : k < qf P j) => ?_) (fun (h2 : ¬ k < qf P j) => ?_)
    · refine Wp.go rfl ?_
      refine Wp.ret rfl ?_
      exact ⟨rv0 (by simp [cvA]; omega), rfl⟩
    · iterate 4 refine Wp.go rfl ?_
      refine Wp.go (if_pos ⟨rfl, rfl, (inE (n := 4) hy (by first | omega | (have := hB j ‹_›; omega)))⟩) ?_
      refine Wp.go rfl ?_
      refine Wp.geN (a := k) (b := qt P j) hx (rdE hy (by first | omega | (have := hB j ‹_›; omega)) (hP.2.2.2 j (by omega)).2.1) (by first | omega | (have := hB j ‹_›; omega)) (by first | omega | (have := hB j ‹_›; omega)) (fun (h3 : ¬ k < qt P j) => ?_) (fun (h3 : k < qt P j) => ?_)
      · refine Wp.go rfl ?_
        refine Wp.ret rfl ?_
        exact ⟨rv0 (by simp [cvA]; omega), rfl⟩
      · iterate 2 refine Wp.go rfl ?_
        refine Wp.ret rfl ?_
        exact ⟨rv1 (by simp [cvA]; omega), rfl⟩
set_option maxRecDepth 100000 in
theorem sX1_startOf {P : pT} {σ : mc_G} (hP : cCode P σ) (hO : pn P ≤ 30 ∧ qn P ≤ 4) {y : Int32} {j : Nat} (hy : y = nI j) (hj : j < 2 ^ 30) (hB : ∀ j, j < qn P → qf P j < qt P j ∧ qt P j ≤ 30 ∧ qa P j < 30 ∧ qk P j < 8) : Wp miX1_startOf 0 [(0, .inr (some 4)), (1, .inl y)] [] σ (fun rv σ' => rv = some (.inl (stA P j)) ∧ σ' = σ) := by
  iterate 2 refine Wp.go rfl ?_
  refine Wp.call rfl cqX1_hasHandler (sX1_hasHandler (σ := σ) hP hO hy (by omega)) (fun rv1 s1 hq1 => ?_)
  obtain ⟨rfl, hq1⟩ := hq1
  replace hq1 := hq1.symm
  subst hq1
  refine Wp.go rfl ?_
  refine Wp.beqD (p := j < qn P) rfl (fun (h1 : ¬ (j < qn P)) => ?_) (fun (h1 : j < qn P) => ?_)
  · refine Wp.go rfl ?_
    refine Wp.ret rfl ?_
    exact ⟨rvI (rfl : _ = (-1 : Int32)) (by simp [stA, h1]), rfl⟩
  · iterate 3 refine Wp.go rfl ?_
    refine Wp.go (if_pos ⟨rfl, rfl, (inE (n := 4) hy (by omega))⟩) ?_
    refine Wp.go rfl ?_
    refine Wp.ret rfl ?_
    exact ⟨rvI (rdE hy (by omega) (hP.2.2.2 j (by omega)).2.2.1) (by simp [stA, h1]), rfl⟩
set_option maxRecDepth 100000 in
theorem sX1_thingOf {P : pT} {σ : mc_G} (hP : cCode P σ) (hO : pn P ≤ 30 ∧ qn P ≤ 4) {y : Int32} {j : Nat} (hy : y = nI j) (hj : j < 2 ^ 30) (hB : ∀ j, j < qn P → qf P j < qt P j ∧ qt P j ≤ 30 ∧ qa P j < 30 ∧ qk P j < 8) : Wp miX1_thingOf 0 [(0, .inr (some 4)), (1, .inl y)] [] σ (fun rv σ' => rv = some (.inl (nI (thA P j))) ∧ σ' = σ) := by
  iterate 2 refine Wp.go rfl ?_
  refine Wp.call rfl cqX1_hasHandler (sX1_hasHandler (σ := σ) hP hO hy (by omega)) (fun rv1 s1 hq1 => ?_)
  obtain ⟨rfl, hq1⟩ := hq1
  replace hq1 := hq1.symm
  subst hq1
  refine Wp.go rfl ?_
  refine Wp.beqD (p := j < qn P) rfl (fun (h1 : ¬ (j < qn P)) => ?_) (fun (h1 : j < qn P) => ?_)
  · refine Wp.go rfl ?_
    refine Wp.ret rfl ?_
    exact ⟨rvN (rfl : _ = nI 0) (by simp [thA, h1]), rfl⟩
  · iterate 4 refine Wp.go rfl ?_
    refine Wp.go (if_pos ⟨rfl, rfl, (inE (n := 4) hy (by omega))⟩) ?_
    iterate 2 refine Wp.go rfl ?_
    refine Wp.ret rfl ?_
    exact ⟨rvN (nE_add (rfl : _ = nI 100) (rdE hy (by omega) (hP.2.2.2 j (by omega)).2.2.2)) (by simp [thA, h1]), rfl⟩

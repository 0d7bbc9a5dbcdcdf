set_option maxRecDepth 100000 in
theorem sX9_count {T : tT} {σ : mc_G} (hT : cTyp T σ) (hO : tOk T) : Wp miX9_count 0 [(0, .inr (some 1))] [] σ (fun rv σ' => rv = some (.inl (nI (tc T))) ∧ σ' = σ) := by
  iterate 2 refine Wp.go rfl ?_
  refine Wp.ret rfl ?_
  exact ⟨rvN hT.1 (by rfl), rfl⟩
set_option maxRecDepth 100000 in
theorem sX9_has {T : tT} {σ : mc_G} (hT : cTyp T σ) (hO : tOk T) {x : Int32} {k : Nat} (hx : x = nI k) (hk : k < 2 ^ 31) : Wp miX9_has 0 [(0, .inr (some 1)), (1, .inl x)] [] σ (fun rv σ' => rv = some (.inl (bI (decide (k < tc T)))) ∧ σ' = σ) := by
  have hc1 := hO.1
  have hc8 := hO.2.1
  iterate 2 refine Wp.go rfl ?_
  refine Wp.ltN (a := k) (b := 0) hx (rfl : _ = nI 0) (by omega) (by omega) (fun (h1 : k < 0) => ?_) (fun (h1 : ¬ k < 0) => ?_)
  · refine Wp.go rfl ?_
    refine Wp.ret rfl ?_
    exact ⟨rv0 (by simp; omega), rfl⟩
  · iterate 4 refine Wp.go rfl ?_
    refine Wp.geN (a := k) (b := tc T) hx hT.1 (by omega) (by omega) (fun (h2 : ¬ k < tc T) => ?_) (fun (h2 : k < tc T) => ?_)
    · refine Wp.go rfl ?_
      refine Wp.ret rfl ?_
      exact ⟨rv0 (by simp; omega), rfl⟩
    · iterate 3 refine Wp.go rfl ?_
      refine Wp.geN (a := k) (b := 8) hx (rfl : _ = nI 8) (by omega) (by omega) (fun (h3 : ¬ k < 8) => ?_) (fun (h3 : k < 8) => ?_)
      · refine Wp.go rfl ?_
        refine Wp.ret rfl ?_
        exact ⟨rv0 (by simp; omega), rfl⟩
      · iterate 2 refine Wp.go rfl ?_
        refine Wp.ret rfl ?_
        exact ⟨rv1 (by simp; omega), rfl⟩
set_option maxRecDepth 100000 in
theorem sX9_has_n {T : tT} {σ : mc_G} (hT : cTyp T σ) (hO : tOk T) {x : Int32} (hx : x < 0) : Wp miX9_has 0 [(0, .inr (some 1)), (1, .inl (x))] [] σ (fun rv σ' => rv = some (.inl (bI (false))) ∧ σ' = σ) := by
  have hc1 := hO.1
  have hc8 := hO.2.1
  iterate 2 refine Wp.go rfl ?_
  refine Wp.ltI rfl (rfl : _ = nI 0) (fun (h1 : x < nI 0) => ?_) (fun (h1 : ¬ x < nI 0) => ?_)
  · refine Wp.go rfl ?_
    refine Wp.ret rfl ?_
    exact ⟨rv0 (by first | rfl | contradiction | exact absurd (neg_lt (n := 100) hx) (by assumption) | exact absurd (neg_lt (n := 200) hx) (by assumption) | exact absurd (show x = nI 0 by assumption) (neg_nI hx) | exact absurd (show x = nI 1 by assumption) (neg_nI hx) | exact absurd (show x = nI 2 by assumption) (neg_nI hx) | exact absurd (show x = nI 3 by assumption) (neg_nI hx) | exact absurd (show x = nI 4 by assumption) (neg_nI hx)), rfl⟩
  · iterate 4 refine Wp.go rfl ?_
    refine Wp.geI rfl hT.1 (fun (h2 : ¬ x < nI (tc T)) => ?_) (fun (h2 : x < nI (tc T)) => ?_)
    · refine Wp.go rfl ?_
      refine Wp.ret rfl ?_
      exact ⟨rv0 (by first | rfl | contradiction | exact absurd (neg_lt (n := 100) hx) (by assumption) | exact absurd (neg_lt (n := 200) hx) (by assumption) | exact absurd (show x = nI 0 by assumption) (neg_nI hx) | exact absurd (show x = nI 1 by assumption) (neg_nI hx) | exact absurd (show x = nI 2 by assumption) (neg_nI hx) | exact absurd (show x = nI 3 by assumption) (neg_nI hx) | exact absurd (show x = nI 4 by assumption) (neg_nI hx)), rfl⟩
    · iterate 3 refine Wp.go rfl ?_
      refine Wp.geI rfl (rfl : _ = nI 8) (fun (h3 : ¬ x < nI 8) => ?_) (fun (h3 : x < nI 8) => ?_)
      · refine Wp.go rfl ?_
        refine Wp.ret rfl ?_
        exact ⟨rv0 (by first | rfl | contradiction | exact absurd (neg_lt (n := 100) hx) (by assumption) | exact absurd (neg_lt (n := 200) hx) (by assumption) | exact absurd (show x = nI 0 by assumption) (neg_nI hx) | exact absurd (show x = nI 1 by assumption) (neg_nI hx) | exact absurd (show x = nI 2 by assumption) (neg_nI hx) | exact absurd (show x = nI 3 by assumption) (neg_nI hx) | exact absurd (show x = nI 4 by assumption) (neg_nI hx)), rfl⟩
      · iterate 2 refine Wp.go rfl ?_
        refine Wp.ret rfl ?_
        exact ⟨rv1 (by first | rfl | contradiction | exact absurd (neg_lt (n := 100) hx) (by assumption) | exact absurd (neg_lt (n := 200) hx) (by assumption) | exact absurd (show x = nI 0 by assumption) (neg_nI hx) | exact absurd (show x = nI 1 by assumption) (neg_nI hx) | exact absurd (show x = nI 2 by assumption) (neg_nI hx) | exact absurd (show x = nI 3 by assumption) (neg_nI hx) | exact absurd (show x = nI 4 by assumption) (neg_nI hx)), rfl⟩
set_option maxRecDepth 100000 in
theorem sX9_isFace {T : tT} {σ : mc_G} (hT : cTyp T σ) (hO : tOk T) {x : Int32} {k : Nat} (hx : x = nI k) (hk : k < 2 ^ 31) : Wp miX9_isFace 0 [(0, .inr (some 1)), (1, .inl x)] [] σ (fun rv σ' => rv = some (.inl (bI (decide (k < tc T) && tf T k))) ∧ σ' = σ) := by
  have hc1 := hO.1
  have hc8 := hO.2.1
  iterate 2 refine Wp.go rfl ?_
  refine Wp.ltN (a := k) (b := 0) hx (rfl : _ = nI 0) (by omega) (by omega) (fun (h1 : k < 0) => ?_) (fun (h1 : ¬ k < 0) => ?_)
  · refine Wp.go rfl ?_
    refine Wp.ret rfl ?_
    exact ⟨rv0 (by simp; first | omega | (intro _; simpa using ‹_›) | simp [*]), rfl⟩
  · iterate 4 refine Wp.go rfl ?_
    refine Wp.geN (a := k) (b := tc T) hx hT.1 (by omega) (by omega) (fun (h2 : ¬ k < tc T) => ?_) (fun (h2 : k < tc T) => ?_)
    · refine Wp.go rfl ?_
      refine Wp.ret rfl ?_
      exact ⟨rv0 (by simp; first | omega | (intro _; simpa using ‹_›) | simp [*]), rfl⟩
    · iterate 3 refine Wp.go rfl ?_
      refine Wp.geN (a := k) (b := 8) hx (rfl : _ = nI 8) (by omega) (by omega) (fun (h3 : ¬ k < 8) => ?_) (fun (h3 : k < 8) => ?_)
      · refine Wp.go rfl ?_
        refine Wp.ret rfl ?_
        exact ⟨rv0 (by simp; first | omega | (intro _; simpa using ‹_›) | simp [*]), rfl⟩
      · iterate 3 refine Wp.go rfl ?_
        refine Wp.go (if_pos ⟨rfl, rfl, (inE (n := 8) hx (by omega))⟩) ?_
        refine Wp.go rfl ?_
        refine Wp.beqE (rdE hx (by omega) (hT.2.1 k (by omega))) (fun (h4 : (tf T k) = false) => ?_) (fun (h4 : (tf T k) = true) => ?_)
        · refine Wp.go rfl ?_
          refine Wp.ret rfl ?_
          exact ⟨rv0 (by simp; first | omega | (intro _; simpa using ‹_›) | simp [*]), rfl⟩
        · iterate 2 refine Wp.go rfl ?_
          refine Wp.ret rfl ?_
          exact ⟨rv1 (by simp; first | omega | (intro _; simpa using ‹_›) | simp [*]), rfl⟩
set_option maxRecDepth 100000 in
theorem sX9_isThing {T : tT} {σ : mc_G} (hT : cTyp T σ) (hO : tOk T) {x : Int32} {k : Nat} (hx : x = nI k) (hk : k < 2 ^ 31) : Wp miX9_isThing 0 [(0, .inr (some 1)), (1, .inl x)] [] σ (fun rv σ' => rv = some (.inl (bI (thK T k))) ∧ σ' = σ) := by
  have hc1 := hO.1
  have hc8 := hO.2.1
  iterate 3 refine Wp.go rfl ?_
  refine Wp.ltN (a := k) (b := 100) hx (rfl : _ = nI 100) (by omega) (by omega) (fun (h1 : k < 100) => ?_) (fun (h1 : ¬ k < 100) => ?_)
  · refine Wp.go rfl ?_
    refine Wp.ret rfl ?_
    exact ⟨rv0 (by simp [thK]; omega), rfl⟩
  · iterate 6 refine Wp.go rfl ?_
    refine Wp.geN (a := k) (b := 100 + (tc T)) hx (nE_add (rfl : _ = nI 100) hT.1) (by omega) (by omega) (fun (h2 : ¬ k < 100 + (tc T)) => ?_) (fun (h2 : k < 100 + (tc T)) => ?_)
    · refine Wp.go rfl ?_
      refine Wp.ret rfl ?_
      exact ⟨rv0 (by simp [thK]; omega), rfl⟩
    · iterate 2 refine Wp.go rfl ?_
      refine Wp.ret rfl ?_
      exact ⟨rv1 (by simp [thK]; omega), rfl⟩
set_option maxRecDepth 100000 in
theorem sX9_isThing_n {T : tT} {σ : mc_G} (hT : cTyp T σ) (hO : tOk T) {x : Int32} (hx : x < 0) : Wp miX9_isThing 0 [(0, .inr (some 1)), (1, .inl (x))] [] σ (fun rv σ' => rv = some (.inl (bI (false))) ∧ σ' = σ) := by
  have hc1 := hO.1
  have hc8 := hO.2.1
  iterate 3 refine Wp.go rfl ?_
  refine Wp.ltI rfl (rfl : _ = nI 100) (fun (h1 : x < nI 100) => ?_) (fun (h1 : ¬ x < nI 100) => ?_)
  · refine Wp.go rfl ?_
    refine Wp.ret rfl ?_
    exact ⟨rv0 (by first | rfl | contradiction | exact absurd (neg_lt (n := 100) hx) (by assumption) | exact absurd (neg_lt (n := 200) hx) (by assumption) | exact absurd (show x = nI 0 by assumption) (neg_nI hx) | exact absurd (show x = nI 1 by assumption) (neg_nI hx) | exact absurd (show x = nI 2 by assumption) (neg_nI hx) | exact absurd (show x = nI 3 by assumption) (neg_nI hx) | exact absurd (show x = nI 4 by assumption) (neg_nI hx)), rfl⟩
  · iterate 6 refine Wp.go rfl ?_
    refine Wp.geI rfl (nE_add (rfl : _ = nI 100) hT.1) (fun (h2 : ¬ x < nI (100 + (tc T))) => ?_) (fun (h2 : x < nI (100 + (tc T))) => ?_)
    · refine Wp.go rfl ?_
      refine Wp.ret rfl ?_
      exact ⟨rv0 (by first | rfl | contradiction | exact absurd (neg_lt (n := 100) hx) (by assumption) | exact absurd (neg_lt (n := 200) hx) (by assumption) | exact absurd (show x = nI 0 by assumption) (neg_nI hx) | exact absurd (show x = nI 1 by assumption) (neg_nI hx) | exact absurd (show x = nI 2 by assumption) (neg_nI hx) | exact absurd (show x = nI 3 by assumption) (neg_nI hx) | exact absurd (show x = nI 4 by assumption) (neg_nI hx)), rfl⟩
    · iterate 2 refine Wp.go rfl ?_
      refine Wp.ret rfl ?_
      exact ⟨rv1 (by first | rfl | contradiction | exact absurd (neg_lt (n := 100) hx) (by assumption) | exact absurd (neg_lt (n := 200) hx) (by assumption) | exact absurd (show x = nI 0 by assumption) (neg_nI hx) | exact absurd (show x = nI 1 by assumption) (neg_nI hx) | exact absurd (show x = nI 2 by assumption) (neg_nI hx) | exact absurd (show x = nI 3 by assumption) (neg_nI hx) | exact absurd (show x = nI 4 by assumption) (neg_nI hx)), rfl⟩
set_option maxRecDepth 100000 in
theorem sX9_isReference {T : tT} {σ : mc_G} (hT : cTyp T σ) (hO : tOk T) {x : Int32} {k : Nat} (hx : x = nI k) (hk : k < 2 ^ 31) : Wp miX9_isReference 0 [(0, .inr (some 1)), (1, .inl x)] [] σ (fun rv σ' => rv = some (.inl (bI (rfK T k))) ∧ σ' = σ) := by
  have hc1 := hO.1
  have hc8 := hO.2.1
  iterate 3 refine Wp.go rfl ?_
  refine Wp.eqN (a := k) (b := 4) hx (rfl : _ = nI 4) (by omega) (by omega) (fun (h1 : k = 4) => ?_) (fun (h1 : ¬ k = 4) => ?_)
  · iterate 2 refine Wp.go rfl ?_
    refine Wp.ret rfl ?_
    exact ⟨rv1 (by simp [rfK, thK]; omega), rfl⟩
  · iterate 3 refine Wp.go rfl ?_
    refine Wp.ltN (a := k) (b := 100) hx (rfl : _ = nI 100) (by omega) (by omega) (fun (h2 : k < 100) => ?_) (fun (h2 : ¬ k < 100) => ?_)
    · refine Wp.go rfl ?_
      refine Wp.ret rfl ?_
      exact ⟨rv0 (by simp [rfK, thK]; omega), rfl⟩
    · iterate 6 refine Wp.go rfl ?_
      refine Wp.geN (a := k) (b := 100 + (tc T)) hx (nE_add (rfl : _ = nI 100) hT.1) (by omega) (by omega) (fun (h3 : ¬ k < 100 + (tc T)) => ?_) (fun (h3 : k < 100 + (tc T)) => ?_)
      · refine Wp.go rfl ?_
        refine Wp.ret rfl ?_
        exact ⟨rv0 (by simp [rfK, thK]; omega), rfl⟩
      · iterate 2 refine Wp.go rfl ?_
        refine Wp.ret rfl ?_
        exact ⟨rv1 (by simp [rfK, thK]; omega), rfl⟩
set_option maxRecDepth 100000 in
theorem sX9_isReference_n {T : tT} {σ : mc_G} (hT : cTyp T σ) (hO : tOk T) {x : Int32} (hx : x < 0) : Wp miX9_isReference 0 [(0, .inr (some 1)), (1, .inl (x))] [] σ (fun rv σ' => rv = some (.inl (bI (false))) ∧ σ' = σ) := by
  have hc1 := hO.1
  have hc8 := hO.2.1
  iterate 3 refine Wp.go rfl ?_
  refine Wp.eqI rfl (rfl : _ = nI 4) (fun (h1 : x = nI 4) => ?_) (fun (h1 : ¬ x = nI 4) => ?_)
  · iterate 2 refine Wp.go rfl ?_
    refine Wp.ret rfl ?_
    exact ⟨rv1 (by first | rfl | contradiction | exact absurd (neg_lt (n := 100) hx) (by assumption) | exact absurd (neg_lt (n := 200) hx) (by assumption) | exact absurd (show x = nI 0 by assumption) (neg_nI hx) | exact absurd (show x = nI 1 by assumption) (neg_nI hx) | exact absurd (show x = nI 2 by assumption) (neg_nI hx) | exact absurd (show x = nI 3 by assumption) (neg_nI hx) | exact absurd (show x = nI 4 by assumption) (neg_nI hx)), rfl⟩
  · iterate 3 refine Wp.go rfl ?_
    refine Wp.ltI rfl (rfl : _ = nI 100) (fun (h2 : x < nI 100) => ?_) (fun (h2 : ¬ x < nI 100) => ?_)
    · refine Wp.go rfl ?_
      refine Wp.ret rfl ?_
      exact ⟨rv0 (by first | rfl | contradiction | exact absurd (neg_lt (n := 100) hx) (by assumption) | exact absurd (neg_lt (n := 200) hx) (by assumption) | exact absurd (show x = nI 0 by assumption) (neg_nI hx) | exact absurd (show x = nI 1 by assumption) (neg_nI hx) | exact absurd (show x = nI 2 by assumption) (neg_nI hx) | exact absurd (show x = nI 3 by assumption) (neg_nI hx) | exact absurd (show x = nI 4 by assumption) (neg_nI hx)), rfl⟩
    · iterate 6 refine Wp.go rfl ?_
      refine Wp.geI rfl (nE_add (rfl : _ = nI 100) hT.1) (fun (h3 : ¬ x < nI (100 + (tc T))) => ?_) (fun (h3 : x < nI (100 + (tc T))) => ?_)
      · refine Wp.go rfl ?_
        refine Wp.ret rfl ?_
        exact ⟨rv0 (by first | rfl | contradiction | exact absurd (neg_lt (n := 100) hx) (by assumption) | exact absurd (neg_lt (n := 200) hx) (by assumption) | exact absurd (show x = nI 0 by assumption) (neg_nI hx) | exact absurd (show x = nI 1 by assumption) (neg_nI hx) | exact absurd (show x = nI 2 by assumption) (neg_nI hx) | exact absurd (show x = nI 3 by assumption) (neg_nI hx) | exact absurd (show x = nI 4 by assumption) (neg_nI hx)), rfl⟩
      · iterate 2 refine Wp.go rfl ?_
        refine Wp.ret rfl ?_
        exact ⟨rv1 (by first | rfl | contradiction | exact absurd (neg_lt (n := 100) hx) (by assumption) | exact absurd (neg_lt (n := 200) hx) (by assumption) | exact absurd (show x = nI 0 by assumption) (neg_nI hx) | exact absurd (show x = nI 1 by assumption) (neg_nI hx) | exact absurd (show x = nI 2 by assumption) (neg_nI hx) | exact absurd (show x = nI 3 by assumption) (neg_nI hx) | exact absurd (show x = nI 4 by assumption) (neg_nI hx)), rfl⟩
set_option maxRecDepth 100000 in
theorem sX9_isPlain {T : tT} {σ : mc_G} (hT : cTyp T σ) (hO : tOk T) {x : Int32} {k : Nat} (hx : x = nI k) (hk : k < 2 ^ 31) : Wp miX9_isPlain 0 [(0, .inr (some 1)), (1, .inl x)] [] σ (fun rv σ' => rv = some (.inl (bI (plK T k))) ∧ σ' = σ) := by
  have hc1 := hO.1
  have hc8 := hO.2.1
  iterate 2 refine Wp.go rfl ?_
  refine Wp.eqN (a := k) (b := 0) hx (rfl : _ = nI 0) (by omega) (by omega) (fun (h1 : k = 0) => ?_) (fun (h1 : ¬ k = 0) => ?_)
  · iterate 2 refine Wp.go rfl ?_
    refine Wp.ret rfl ?_
    exact ⟨rv1 (by simp [plK, *]), rfl⟩
  · iterate 3 refine Wp.go rfl ?_
    refine Wp.eqN (a := k) (b := 1) hx (rfl : _ = nI 1) (by omega) (by omega) (fun (h2 : k = 1) => ?_) (fun (h2 : ¬ k = 1) => ?_)
    · iterate 2 refine Wp.go rfl ?_
      refine Wp.ret rfl ?_
      exact ⟨rv1 (by simp [plK, *]), rfl⟩
    · iterate 2 refine Wp.go rfl ?_
      refine Wp.call rfl cqX9_isReference (sX9_isReference (σ := σ) hT hO hx (by omega)) (fun rv1 s1 hq1 => ?_)
      obtain ⟨rfl, hq1⟩ := hq1
      replace hq1 := hq1.symm
      subst hq1
      refine Wp.go rfl ?_
      refine Wp.beqE rfl (fun (h3 : (rfK T k) = false) => ?_) (fun (h3 : (rfK T k) = true) => ?_)
      · refine Wp.go rfl ?_
        refine Wp.ret rfl ?_
        exact ⟨rv0 (by simp [plK, *]), rfl⟩
      · iterate 2 refine Wp.go rfl ?_
        refine Wp.ret rfl ?_
        exact ⟨rv1 (by simp [plK, *]), rfl⟩
set_option maxRecDepth 100000 in
theorem sX9_isPlain_n {T : tT} {σ : mc_G} (hT : cTyp T σ) (hO : tOk T) {x : Int32} (hx : x < 0) : Wp miX9_isPlain 0 [(0, .inr (some 1)), (1, .inl (x))] [] σ (fun rv σ' => rv = some (.inl (bI (false))) ∧ σ' = σ) := by
  have hc1 := hO.1
  have hc8 := hO.2.1
  iterate 2 refine Wp.go rfl ?_
  refine Wp.eqI rfl (rfl : _ = nI 0) (fun (h1 : x = nI 0) => ?_) (fun (h1 : ¬ x = nI 0) => ?_)
  · iterate 2 refine Wp.go rfl ?_
    refine Wp.ret rfl ?_
    exact ⟨rv1 (by first | rfl | contradiction | exact absurd (neg_lt (n := 100) hx) (by assumption) | exact absurd (neg_lt (n := 200) hx) (by assumption) | exact absurd (show x = nI 0 by assumption) (neg_nI hx) | exact absurd (show x = nI 1 by assumption) (neg_nI hx) | exact absurd (show x = nI 2 by assumption) (neg_nI hx) | exact absurd (show x = nI 3 by assumption) (neg_nI hx) | exact absurd (show x = nI 4 by assumption) (neg_nI hx)), rfl⟩
  · iterate 3 refine Wp.go rfl ?_
    refine Wp.eqI rfl (rfl : _ = nI 1) (fun (h2 : x = nI 1) => ?_) (fun (h2 : ¬ x = nI 1) => ?_)
    · iterate 2 refine Wp.go rfl ?_
      refine Wp.ret rfl ?_
      exact ⟨rv1 (by first | rfl | contradiction | exact absurd (neg_lt (n := 100) hx) (by assumption) | exact absurd (neg_lt (n := 200) hx) (by assumption) | exact absurd (show x = nI 0 by assumption) (neg_nI hx) | exact absurd (show x = nI 1 by assumption) (neg_nI hx) | exact absurd (show x = nI 2 by assumption) (neg_nI hx) | exact absurd (show x = nI 3 by assumption) (neg_nI hx) | exact absurd (show x = nI 4 by assumption) (neg_nI hx)), rfl⟩
    · iterate 2 refine Wp.go rfl ?_
      refine Wp.call rfl cqX9_isReference (sX9_isReference_n (σ := σ) hT hO hx) (fun rv1 s1 hq1 => ?_)
      obtain ⟨rfl, hq1⟩ := hq1
      replace hq1 := hq1.symm
      subst hq1
      refine Wp.go rfl ?_
      refine Wp.beqE (b := false) rfl (fun _ => ?_) (fun q => by cases q)
      refine Wp.go rfl ?_
      refine Wp.ret rfl ?_
      exact ⟨rv0 (by first | rfl | contradiction | exact absurd (neg_lt (n := 100) hx) (by assumption) | exact absurd (neg_lt (n := 200) hx) (by assumption) | exact absurd (show x = nI 0 by assumption) (neg_nI hx) | exact absurd (show x = nI 1 by assumption) (neg_nI hx) | exact absurd (show x = nI 2 by assumption) (neg_nI hx) | exact absurd (show x = nI 3 by assumption) (neg_nI hx) | exact absurd (show x = nI 4 by assumption) (neg_nI hx)), rfl⟩
set_option maxRecDepth 100000 in
theorem sX11_isBegun {σ : mc_G} {x : Int32} {k : Nat} (hx : x = nI k) (hk : k < 2 ^ 31) : Wp miX11_isBegun 0 [(0, .inl x)] [] σ (fun rv σ' => rv = some (.inl (bI (bgK k))) ∧ σ' = σ) := by
  iterate 3 refine Wp.go rfl ?_
  refine Wp.ltN (a := k) (b := 200) hx (rfl : _ = nI 200) (by omega) (by omega) (fun (h1 : k < 200) => ?_) (fun (h1 : ¬ k < 200) => ?_)
  · refine Wp.go rfl ?_
    refine Wp.ret rfl ?_
    exact ⟨rv0 (by simp [bgK]; omega), rfl⟩
  · iterate 3 refine Wp.go rfl ?_
    refine Wp.geN (a := k) (b := 230) hx (rfl : _ = nI 230) (by omega) (by omega) (fun (h2 : ¬ k < 230) => ?_) (fun (h2 : k < 230) => ?_)
    · refine Wp.go rfl ?_
      refine Wp.ret rfl ?_
      exact ⟨rv0 (by simp [bgK]; omega), rfl⟩
    · iterate 2 refine Wp.go rfl ?_
      refine Wp.ret rfl ?_
      exact ⟨rv1 (by simp [bgK]; omega), rfl⟩
set_option maxRecDepth 100000 in
theorem sX11_isBegun_n {σ : mc_G} {x : Int32} (hx : x < 0) : Wp miX11_isBegun 0 [(0, .inl x)] [] σ (fun rv σ' => rv = some (.inl (bI (false))) ∧ σ' = σ) := by
  iterate 3 refine Wp.go rfl ?_
  refine Wp.ltI rfl (rfl : _ = nI 200) (fun (h1 : x < nI 200) => ?_) (fun (h1 : ¬ x < nI 200) => ?_)
  · refine Wp.go rfl ?_
    refine Wp.ret rfl ?_
    exact ⟨rv0 (by first | rfl | contradiction | exact absurd (neg_lt (n := 100) hx) (by assumption) | exact absurd (neg_lt (n := 200) hx) (by assumption) | exact absurd (show x = nI 0 by assumption) (neg_nI hx) | exact absurd (show x = nI 1 by assumption) (neg_nI hx) | exact absurd (show x = nI 2 by assumption) (neg_nI hx) | exact absurd (show x = nI 3 by assumption) (neg_nI hx) | exact absurd (show x = nI 4 by assumption) (neg_nI hx)), rfl⟩
  · iterate 3 refine Wp.go rfl ?_
    refine Wp.geI rfl (rfl : _ = nI 230) (fun (h2 : ¬ x < nI 230) => ?_) (fun (h2 : x < nI 230) => ?_)
    · refine Wp.go rfl ?_
      refine Wp.ret rfl ?_
      exact ⟨rv0 (by first | rfl | contradiction | exact absurd (neg_lt (n := 100) hx) (by assumption) | exact absurd (neg_lt (n := 200) hx) (by assumption) | exact absurd (show x = nI 0 by assumption) (neg_nI hx) | exact absurd (show x = nI 1 by assumption) (neg_nI hx) | exact absurd (show x = nI 2 by assumption) (neg_nI hx) | exact absurd (show x = nI 3 by assumption) (neg_nI hx) | exact absurd (show x = nI 4 by assumption) (neg_nI hx)), rfl⟩
    · iterate 2 refine Wp.go rfl ?_
      refine Wp.ret rfl ?_
      exact ⟨rv1 (by first | rfl | contradiction | exact absurd (neg_lt (n := 100) hx) (by assumption) | exact absurd (neg_lt (n := 200) hx) (by assumption) | exact absurd (show x = nI 0 by assumption) (neg_nI hx) | exact absurd (show x = nI 1 by assumption) (neg_nI hx) | exact absurd (show x = nI 2 by assumption) (neg_nI hx) | exact absurd (show x = nI 3 by assumption) (neg_nI hx) | exact absurd (show x = nI 4 by assumption) (neg_nI hx)), rfl⟩
set_option maxRecDepth 100000 in
theorem sX9_isKind {T : tT} {σ : mc_G} (hT : cTyp T σ) (hO : tOk T) {x : Int32} {k : Nat} (hx : x = nI k) (hk : k < 2 ^ 31) : Wp miX9_isKind 0 [(0, .inr (some 1)), (1, .inl x)] [] σ (fun rv σ' => rv = some (.inl (bI (isK T k))) ∧ σ' = σ) := by
  have hc1 := hO.1
  have hc8 := hO.2.1
  iterate 2 refine Wp.go rfl ?_
  refine Wp.call rfl cqX9_isPlain (sX9_isPlain (σ := σ) hT hO hx (by omega)) (fun rv1 s1 hq1 => ?_)
  obtain ⟨rfl, hq1⟩ := hq1
  replace hq1 := hq1.symm
  subst hq1
  refine Wp.go rfl ?_
  refine Wp.bneE rfl (fun (h1 : (plK T k) = true) => ?_) (fun (h1 : (plK T k) = false) => ?_)
  · iterate 2 refine Wp.go rfl ?_
    refine Wp.ret rfl ?_
    exact ⟨rv1 (by simp [isK, *]), rfl⟩
  · iterate 3 refine Wp.go rfl ?_
    refine Wp.eqN (a := k) (b := 2) hx (rfl : _ = nI 2) (by omega) (by omega) (fun (h2 : k = 2) => ?_) (fun (h2 : ¬ k = 2) => ?_)
    · iterate 2 refine Wp.go rfl ?_
      refine Wp.ret rfl ?_
      exact ⟨rv1 (by simp [isK, *]), rfl⟩
    · iterate 3 refine Wp.go rfl ?_
      refine Wp.eqN (a := k) (b := 3) hx (rfl : _ = nI 3) (by omega) (by omega) (fun (h3 : k = 3) => ?_) (fun (h3 : ¬ k = 3) => ?_)
      · iterate 2 refine Wp.go rfl ?_
        refine Wp.ret rfl ?_
        exact ⟨rv1 (by simp [isK, *]), rfl⟩
      · refine Wp.go rfl ?_
        refine Wp.call rfl cqX11_isBegun (sX11_isBegun (σ := σ) hx (by omega)) (fun rv2 s2 hq2 => ?_)
        obtain ⟨rfl, hq2⟩ := hq2
        replace hq2 := hq2.symm
        subst hq2
        refine Wp.go rfl ?_
        refine Wp.beqE rfl (fun (h4 : (bgK k) = false) => ?_) (fun (h4 : (bgK k) = true) => ?_)
        · refine Wp.go rfl ?_
          refine Wp.ret rfl ?_
          exact ⟨rv0 (by simp [isK, *]), rfl⟩
        · iterate 2 refine Wp.go rfl ?_
          refine Wp.ret rfl ?_
          exact ⟨rv1 (by simp [isK, *]), rfl⟩
set_option maxRecDepth 100000 in
theorem sX9_isKind_n {T : tT} {σ : mc_G} (hT : cTyp T σ) (hO : tOk T) {x : Int32} (hx : x < 0) : Wp miX9_isKind 0 [(0, .inr (some 1)), (1, .inl (x))] [] σ (fun rv σ' => rv = some (.inl (bI (false))) ∧ σ' = σ) := by
  have hc1 := hO.1
  have hc8 := hO.2.1
  iterate 2 refine Wp.go rfl ?_
  refine Wp.call rfl cqX9_isPlain (sX9_isPlain_n (σ := σ) hT hO hx) (fun rv1 s1 hq1 => ?_)
  obtain ⟨rfl, hq1⟩ := hq1
  replace hq1 := hq1.symm
  subst hq1
  refine Wp.go rfl ?_
  refine Wp.bneE (b := false) rfl (fun q => by cases q) (fun _ => ?_)
  iterate 3 refine Wp.go rfl ?_
  refine Wp.eqI rfl (rfl : _ = nI 2) (fun (h2 : x = nI 2) => ?_) (fun (h2 : ¬ x = nI 2) => ?_)
  · iterate 2 refine Wp.go rfl ?_
    refine Wp.ret rfl ?_
    exact ⟨rv1 (by first | rfl | contradiction | exact absurd (neg_lt (n := 100) hx) (by assumption) | exact absurd (neg_lt (n := 200) hx) (by assumption) | exact absurd (show x = nI 0 by assumption) (neg_nI hx) | exact absurd (show x = nI 1 by assumption) (neg_nI hx) | exact absurd (show x = nI 2 by assumption) (neg_nI hx) | exact absurd (show x = nI 3 by assumption) (neg_nI hx) | exact absurd (show x = nI 4 by assumption) (neg_nI hx)), rfl⟩
  · iterate 3 refine Wp.go rfl ?_
    refine Wp.eqI rfl (rfl : _ = nI 3) (fun (h3 : x = nI 3) => ?_) (fun (h3 : ¬ x = nI 3) => ?_)
    · iterate 2 refine Wp.go rfl ?_
      refine Wp.ret rfl ?_
      exact ⟨rv1 (by first | rfl | contradiction | exact absurd (neg_lt (n := 100) hx) (by assumption) | exact absurd (neg_lt (n := 200) hx) (by assumption) | exact absurd (show x = nI 0 by assumption) (neg_nI hx) | exact absurd (show x = nI 1 by assumption) (neg_nI hx) | exact absurd (show x = nI 2 by assumption) (neg_nI hx) | exact absurd (show x = nI 3 by assumption) (neg_nI hx) | exact absurd (show x = nI 4 by assumption) (neg_nI hx)), rfl⟩
    · refine Wp.go rfl ?_
      refine Wp.call rfl cqX11_isBegun (sX11_isBegun_n (σ := σ) hx) (fun rv2 s2 hq2 => ?_)
      obtain ⟨rfl, hq2⟩ := hq2
      replace hq2 := hq2.symm
      subst hq2
      refine Wp.go rfl ?_
      refine Wp.beqE (b := false) rfl (fun _ => ?_) (fun q => by cases q)
      refine Wp.go rfl ?_
      refine Wp.ret rfl ?_
      exact ⟨rv0 (by first | rfl | contradiction | exact absurd (neg_lt (n := 100) hx) (by assumption) | exact absurd (neg_lt (n := 200) hx) (by assumption) | exact absurd (show x = nI 0 by assumption) (neg_nI hx) | exact absurd (show x = nI 1 by assumption) (neg_nI hx) | exact absurd (show x = nI 2 by assumption) (neg_nI hx) | exact absurd (show x = nI 3 by assumption) (neg_nI hx) | exact absurd (show x = nI 4 by assumption) (neg_nI hx)), rfl⟩
set_option maxRecDepth 100000 in
theorem sX9_nearest {T : tT} {σ : mc_G} (hT : cTyp T σ) (hO : tOk T) {x y : Int32} {k j : Nat} (hx : x = nI k) (hk : k < tc T) (hy : y = nI j) (hj : j < tc T) : Wp miX9_nearest 0 [(0, .inr (some 1)), (1, .inl x), (2, .inl y)] [] σ (fun rv σ' => rv = some (.inl (nI (neA T k j))) ∧ σ' = σ) := by
  have hc1 := hO.1
  have hc8 := hO.2.1
  iterate 8 refine Wp.go rfl ?_
  refine Wp.ltN (a := (k * 8) + j) (b := 0) (nE_add (nE_mul hx (rfl : _ = nI 8)) hy) (rfl : _ = nI 0) (by omega) (by omega) (fun (h1 : (k * 8) + j < 0) => ?_) (fun (h1 : ¬ (k * 8) + j < 0) => ?_)
  · refine Wp.go rfl ?_
    refine Wp.ret rfl ?_
    exfalso; omega
  · iterate 5 refine Wp.go rfl ?_
    refine Wp.geN (a := (k * 8) + j) (b := 64) (nE_add (nE_mul hx (rfl : _ = nI 8)) hy) (rfl : _ = nI 64) (by omega) (by omega) (fun (h2 : ¬ (k * 8) + j < 64) => ?_) (fun (h2 : (k * 8) + j < 64) => ?_)
    · refine Wp.go rfl ?_
      refine Wp.ret rfl ?_
      exfalso; omega
    · iterate 3 refine Wp.go rfl ?_
      refine Wp.go (if_pos ⟨rfl, rfl, (inE (n := 64) (nE_add (nE_mul hx (rfl : _ = nI 8)) hy) (by omega))⟩) ?_
      refine Wp.go rfl ?_
      refine Wp.ret rfl ?_
      exact ⟨rvN (rdE (nE_add (nE_mul hx (rfl : _ = nI 8)) hy) (by omega) (hT.2.2 k j hk hj)) rfl, rfl⟩

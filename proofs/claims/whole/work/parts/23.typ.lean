set_option maxRecDepth 100000 in
theorem sX9_standsFor {T : tT} {σ : mc_G} (hT : cTyp T σ) (hO : tOk T) {x y : Int32} {k j : Nat} (hx : x = nI k) (hk : k < 2 ^ 31) (hy : y = nI j) (hj : j < 2 ^ 31) : Wp miX9_standsFor 0 [(0, .inr (some 1)), (1, .inl x), (2, .inl y)] [] σ (fun rv σ' => rv = some (.inl (bI (gfA T k j))) ∧ σ' = σ) := by
  have hc1 := hO.1
  have hc8 := hO.2.1
  iterate 3 refine Wp.go rfl ?_
  refine Wp.eqN (a := k) (b := j) hx hy (by first | omega | (have hz := neA_lt hO (i := k - 100) (j := j - 100) (by first | omega | (simp only [thK, rfK, Bool.and_eq_true, Bool.or_eq_true, decide_eq_true_eq] at *; omega)) (by first | omega | (simp only [thK, rfK, Bool.and_eq_true, Bool.or_eq_true, decide_eq_true_eq] at *; omega)); omega) | (simp only [thK, rfK, Bool.and_eq_true, Bool.or_eq_true, decide_eq_true_eq] at *; omega)) (by first | omega | (have hz := neA_lt hO (i := k - 100) (j := j - 100) (by first | omega | (simp only [thK, rfK, Bool.and_eq_true, Bool.or_eq_true, decide_eq_true_eq] at *; omega)) (by first | omega | (simp only [thK, rfK, Bool.and_eq_true, Bool.or_eq_true, decide_eq_true_eq] at *; omega)); omega) | (simp only [thK, rfK, Bool.and_eq_true, Bool.or_eq_true, decide_eq_true_eq] at *; omega)) (fun (h1 : k = j) => ?_) (fun (h1 : ¬ k = j) => ?_)
  · refine Wp.go rfl ?_
    refine Wp.ret rfl ?_
    exact ⟨rv1 (by simp_all [gfA]), rfl⟩
  · iterate 2 refine Wp.go rfl ?_
    refine Wp.neN (a := j) (b := 0) hy (rfl : _ = nI 0) (by first | omega | (have hz := neA_lt hO (i := k - 100) (j := j - 100) (by first | omega | (simp only [thK, rfK, Bool.and_eq_true, Bool.or_eq_true, decide_eq_true_eq] at *; omega)) (by first | omega | (simp only [thK, rfK, Bool.and_eq_true, Bool.or_eq_true, decide_eq_true_eq] at *; omega)); omega) | (simp only [thK, rfK, Bool.and_eq_true, Bool.or_eq_true, decide_eq_true_eq] at *; omega)) (by first | omega | (have hz := neA_lt hO (i := k - 100) (j := j - 100) (by first | omega | (simp only [thK, rfK, Bool.and_eq_true, Bool.or_eq_true, decide_eq_true_eq] at *; omega)) (by first | omega | (simp only [thK, rfK, Bool.and_eq_true, Bool.or_eq_true, decide_eq_true_eq] at *; omega)); omega) | (simp only [thK, rfK, Bool.and_eq_true, Bool.or_eq_true, decide_eq_true_eq] at *; omega)) (fun (h2 : ¬ j = 0) => ?_) (fun (h2 : j = 0) => ?_)
    · iterate 2 refine Wp.go rfl ?_
      refine Wp.call rfl cqX9_isThing (sX9_isThing (σ := σ) hT hO hy (by omega)) (fun rv1 s1 hq1 => ?_)
      obtain ⟨rfl, hq1⟩ := hq1
      replace hq1 := hq1.symm
      subst hq1
      refine Wp.go rfl ?_
      refine Wp.beqE rfl (fun (h3 : (thK T j) = false) => ?_) (fun (h3 : (thK T j) = true) => ?_)
      · refine Wp.go rfl ?_
        refine Wp.ret rfl ?_
        exact ⟨rv0 (by simp_all [gfA]), rfl⟩
      · iterate 2 refine Wp.go rfl ?_
        refine Wp.call rfl cqX9_isReference (sX9_isReference (σ := σ) hT hO hx (by omega)) (fun rv2 s2 hq2 => ?_)
        obtain ⟨rfl, hq2⟩ := hq2
        replace hq2 := hq2.symm
        subst hq2
        refine Wp.go rfl ?_
        refine Wp.bneE rfl (fun (h4 : (rfK T k) = true) => ?_) (fun (h4 : (rfK T k) = false) => ?_)
        · iterate 7 refine Wp.go rfl ?_
          refine Wp.eqN (a := k) (b := 4) hx (rfl : _ = nI 4) (by first | omega | (have hz := neA_lt hO (i := k - 100) (j := j - 100) (by first | omega | (simp only [thK, rfK, Bool.and_eq_true, Bool.or_eq_true, decide_eq_true_eq] at *; omega)) (by first | omega | (simp only [thK, rfK, Bool.and_eq_true, Bool.or_eq_true, decide_eq_true_eq] at *; omega)); omega) | (simp only [thK, rfK, Bool.and_eq_true, Bool.or_eq_true, decide_eq_true_eq] at *; omega)) (by first | omega | (have hz := neA_lt hO (i := k - 100) (j := j - 100) (by first | omega | (simp only [thK, rfK, Bool.and_eq_true, Bool.or_eq_true, decide_eq_true_eq] at *; omega)) (by first | omega | (simp only [thK, rfK, Bool.and_eq_true, Bool.or_eq_true, decide_eq_true_eq] at *; omega)); omega) | (simp only [thK, rfK, Bool.and_eq_true, Bool.or_eq_true, decide_eq_true_eq] at *; omega)) (fun (h5 : k = 4) => ?_) (fun (h5 : ¬ k = 4) => ?_)
          · iterate 2 refine Wp.go rfl ?_
            refine Wp.ret rfl ?_
            have hq : j - 100 < tc T := by first | omega | (simp only [thK, rfK, Bool.and_eq_true, Bool.or_eq_true, decide_eq_true_eq] at *; omega)
            exact ⟨rv1 (by simp_all [gfA]), rfl⟩
          · iterate 2 refine Wp.go rfl ?_
            refine Wp.call rfl cqX9_isFace (sX9_isFace (σ := σ) hT hO (nE_sub hy (rfl : _ = nI 100) (by first | omega | (have hz := neA_lt hO (i := k - 100) (j := j - 100) (by first | omega | (simp only [thK, rfK, Bool.and_eq_true, Bool.or_eq_true, decide_eq_true_eq] at *; omega)) (by first | omega | (simp only [thK, rfK, Bool.and_eq_true, Bool.or_eq_true, decide_eq_true_eq] at *; omega)); omega) | (simp only [thK, rfK, Bool.and_eq_true, Bool.or_eq_true, decide_eq_true_eq] at *; omega))) (by first | omega | (simp only [thK, rfK, Bool.and_eq_true, Bool.or_eq_true, decide_eq_true_eq] at *; omega))) (fun rv3 s3 hq3 => ?_)
            obtain ⟨rfl, hq3⟩ := hq3
            replace hq3 := hq3.symm
            subst hq3
            refine Wp.go rfl ?_
            refine Wp.bneE rfl (fun (h6 : (decide (j - 100 < tc T) && tf T (j - 100)) = true) => ?_) (fun (h6 : (decide (j - 100 < tc T) && tf T (j - 100)) = false) => ?_)
            · iterate 2 refine Wp.go rfl ?_
              refine Wp.ret rfl ?_
              have hq : j - 100 < tc T := by first | omega | (simp only [thK, rfK, Bool.and_eq_true, Bool.or_eq_true, decide_eq_true_eq] at *; omega)
              exact ⟨rv1 (by simp_all [gfA]), rfl⟩
            · iterate 5 refine Wp.go rfl ?_
              refine Wp.call rfl cqX9_nearest (sX9_nearest (σ := σ) hT hO (nE_sub hx (rfl : _ = nI 100) (by first | omega | (have hz := neA_lt hO (i := k - 100) (j := j - 100) (by first | omega | (simp only [thK, rfK, Bool.and_eq_true, Bool.or_eq_true, decide_eq_true_eq] at *; omega)) (by first | omega | (simp only [thK, rfK, Bool.and_eq_true, Bool.or_eq_true, decide_eq_true_eq] at *; omega)); omega) | (simp only [thK, rfK, Bool.and_eq_true, Bool.or_eq_true, decide_eq_true_eq] at *; omega))) (by first | omega | (simp only [thK, rfK, Bool.and_eq_true, Bool.or_eq_true, decide_eq_true_eq] at *; omega)) (nE_sub hy (rfl : _ = nI 100) (by first | omega | (have hz := neA_lt hO (i := k - 100) (j := j - 100) (by first | omega | (simp only [thK, rfK, Bool.and_eq_true, Bool.or_eq_true, decide_eq_true_eq] at *; omega)) (by first | omega | (simp only [thK, rfK, Bool.and_eq_true, Bool.or_eq_true, decide_eq_true_eq] at *; omega)); omega) | (simp only [thK, rfK, Bool.and_eq_true, Bool.or_eq_true, decide_eq_true_eq] at *; omega))) (by first | omega | (simp only [thK, rfK, Bool.and_eq_true, Bool.or_eq_true, decide_eq_true_eq] at *; omega))) (fun rv4 s4 hq4 => ?_)
              obtain ⟨rfl, hq4⟩ := hq4
              replace hq4 := hq4.symm
              subst hq4
              iterate 2 refine Wp.go rfl ?_
              refine Wp.neN (a := neA T (k - 100) (j - 100)) (b := j - 100) rfl (nE_sub hy (rfl : _ = nI 100) (by first | omega | (have hz := neA_lt hO (i := k - 100) (j := j - 100) (by first | omega | (simp only [thK, rfK, Bool.and_eq_true, Bool.or_eq_true, decide_eq_true_eq] at *; omega)) (by first | omega | (simp only [thK, rfK, Bool.and_eq_true, Bool.or_eq_true, decide_eq_true_eq] at *; omega)); omega) | (simp only [thK, rfK, Bool.and_eq_true, Bool.or_eq_true, decide_eq_true_eq] at *; omega))) (by first | omega | (have hz := neA_lt hO (i := k - 100) (j := j - 100) (by first | omega | (simp only [thK, rfK, Bool.and_eq_true, Bool.or_eq_true, decide_eq_true_eq] at *; omega)) (by first | omega | (simp only [thK, rfK, Bool.and_eq_true, Bool.or_eq_true, decide_eq_true_eq] at *; omega)); omega) | (simp only [thK, rfK, Bool.and_eq_true, Bool.or_eq_true, decide_eq_true_eq] at *; omega)) (by first | omega | (have hz := neA_lt hO (i := k - 100) (j := j - 100) (by first | omega | (simp only [thK, rfK, Bool.and_eq_true, Bool.or_eq_true, decide_eq_true_eq] at *; omega)) (by first | omega | (simp only [thK, rfK, Bool.and_eq_true, Bool.or_eq_true, decide_eq_true_eq] at *; omega)); omega) | (simp only [thK, rfK, Bool.and_eq_true, Bool.or_eq_true, decide_eq_true_eq] at *; omega)) (fun (h7 : ¬ neA T (k - 100) (j - 100) = j - 100) => ?_) (fun (h7 : neA T (k - 100) (j - 100) = j - 100) => ?_)
              · refine Wp.go rfl ?_
                refine Wp.ret rfl ?_
                have hq : j - 100 < tc T := by first | omega | (simp only [thK, rfK, Bool.and_eq_true, Bool.or_eq_true, decide_eq_true_eq] at *; omega)
                exact ⟨rv0 (by simp_all [gfA]), rfl⟩
              · iterate 2 refine Wp.go rfl ?_
                refine Wp.ret rfl ?_
                have hq : j - 100 < tc T := by first | omega | (simp only [thK, rfK, Bool.and_eq_true, Bool.or_eq_true, decide_eq_true_eq] at *; omega)
                exact ⟨rv1 (by simp_all [gfA]), rfl⟩
        · refine Wp.go rfl ?_
          refine Wp.ret rfl ?_
          have hq : j - 100 < tc T := by first | omega | (simp only [thK, rfK, Bool.and_eq_true, Bool.or_eq_true, decide_eq_true_eq] at *; omega)
          exact ⟨rv0 (by simp_all [gfA]), rfl⟩
    · refine Wp.go rfl ?_
      refine Wp.ret rfl ?_
      exact ⟨rv1 (by simp_all [gfA]), rfl⟩
set_option maxRecDepth 100000 in
theorem sX9_join {T : tT} {σ : mc_G} (hT : cTyp T σ) (hO : tOk T) {x y : Int32} {k j : Nat} (hx : x = nI k) (hk : k < 2 ^ 31) (hy : y = nI j) (hj : j < 2 ^ 31) : Wp miX9_join 0 [(0, .inr (some 1)), (1, .inl x), (2, .inl y)] [] σ (fun rv σ' => rv = some (.inl (nI (jnA T k j))) ∧ σ' = σ) := by
  have hc1 := hO.1
  have hc8 := hO.2.1
  iterate 3 refine Wp.go rfl ?_
  refine Wp.neN (a := k) (b := j) hx hy (by first | omega | (have hz := neA_lt hO (i := k - 100) (j := j - 100) (by first | omega | (simp only [thK, rfK, Bool.and_eq_true, Bool.or_eq_true, decide_eq_true_eq] at *; omega)) (by first | omega | (simp only [thK, rfK, Bool.and_eq_true, Bool.or_eq_true, decide_eq_true_eq] at *; omega)); omega) | (simp only [thK, rfK, Bool.and_eq_true, Bool.or_eq_true, decide_eq_true_eq] at *; omega)) (by first | omega | (have hz := neA_lt hO (i := k - 100) (j := j - 100) (by first | omega | (simp only [thK, rfK, Bool.and_eq_true, Bool.or_eq_true, decide_eq_true_eq] at *; omega)) (by first | omega | (simp only [thK, rfK, Bool.and_eq_true, Bool.or_eq_true, decide_eq_true_eq] at *; omega)); omega) | (simp only [thK, rfK, Bool.and_eq_true, Bool.or_eq_true, decide_eq_true_eq] at *; omega)) (fun (h1 : ¬ k = j) => ?_) (fun (h1 : k = j) => ?_)
  · iterate 2 refine Wp.go rfl ?_
    refine Wp.call rfl cqX9_isReference (sX9_isReference (σ := σ) hT hO hx (by omega)) (fun rv1 s1 hq1 => ?_)
    obtain ⟨rfl, hq1⟩ := hq1
    replace hq1 := hq1.symm
    subst hq1
    refine Wp.go rfl ?_
    refine Wp.beqE rfl (fun (h2 : (rfK T k) = false) => ?_) (fun (h2 : (rfK T k) = true) => ?_)
    · refine Wp.go rfl ?_
      refine Wp.ret rfl ?_
      exact ⟨rvN (rfl : _ = nI 0) (by simp_all [jnA]), rfl⟩
    · iterate 2 refine Wp.go rfl ?_
      refine Wp.call rfl cqX9_isReference (sX9_isReference (σ := σ) hT hO hy (by omega)) (fun rv2 s2 hq2 => ?_)
      obtain ⟨rfl, hq2⟩ := hq2
      replace hq2 := hq2.symm
      subst hq2
      refine Wp.go rfl ?_
      refine Wp.bneE rfl (fun (h3 : (rfK T j) = true) => ?_) (fun (h3 : (rfK T j) = false) => ?_)
      · iterate 3 refine Wp.go rfl ?_
        refine Wp.neN (a := k) (b := 4) hx (rfl : _ = nI 4) (by first | omega | (have hz := neA_lt hO (i := k - 100) (j := j - 100) (by first | omega | (simp only [thK, rfK, Bool.and_eq_true, Bool.or_eq_true, decide_eq_true_eq] at *; omega)) (by first | omega | (simp only [thK, rfK, Bool.and_eq_true, Bool.or_eq_true, decide_eq_true_eq] at *; omega)); omega) | (simp only [thK, rfK, Bool.and_eq_true, Bool.or_eq_true, decide_eq_true_eq] at *; omega)) (by first | omega | (have hz := neA_lt hO (i := k - 100) (j := j - 100) (by first | omega | (simp only [thK, rfK, Bool.and_eq_true, Bool.or_eq_true, decide_eq_true_eq] at *; omega)) (by first | omega | (simp only [thK, rfK, Bool.and_eq_true, Bool.or_eq_true, decide_eq_true_eq] at *; omega)); omega) | (simp only [thK, rfK, Bool.and_eq_true, Bool.or_eq_true, decide_eq_true_eq] at *; omega)) (fun (h4 : ¬ k = 4) => ?_) (fun (h4 : k = 4) => ?_)
        · iterate 3 refine Wp.go rfl ?_
          refine Wp.neN (a := j) (b := 4) hy (rfl : _ = nI 4) (by first | omega | (have hz := neA_lt hO (i := k - 100) (j := j - 100) (by first | omega | (simp only [thK, rfK, Bool.and_eq_true, Bool.or_eq_true, decide_eq_true_eq] at *; omega)) (by first | omega | (simp only [thK, rfK, Bool.and_eq_true, Bool.or_eq_true, decide_eq_true_eq] at *; omega)); omega) | (simp only [thK, rfK, Bool.and_eq_true, Bool.or_eq_true, decide_eq_true_eq] at *; omega)) (by first | omega | (have hz := neA_lt hO (i := k - 100) (j := j - 100) (by first | omega | (simp only [thK, rfK, Bool.and_eq_true, Bool.or_eq_true, decide_eq_true_eq] at *; omega)) (by first | omega | (simp only [thK, rfK, Bool.and_eq_true, Bool.or_eq_true, decide_eq_true_eq] at *; omega)); omega) | (simp only [thK, rfK, Bool.and_eq_true, Bool.or_eq_true, decide_eq_true_eq] at *; omega)) (fun (h5 : ¬ j = 4) => ?_) (fun (h5 : j = 4) => ?_)
          · iterate 8 refine Wp.go rfl ?_
            refine Wp.call rfl cqX9_nearest (sX9_nearest (σ := σ) hT hO (nE_sub hx (rfl : _ = nI 100) (by first | omega | (have hz := neA_lt hO (i := k - 100) (j := j - 100) (by first | omega | (simp only [thK, rfK, Bool.and_eq_true, Bool.or_eq_true, decide_eq_true_eq] at *; omega)) (by first | omega | (simp only [thK, rfK, Bool.and_eq_true, Bool.or_eq_true, decide_eq_true_eq] at *; omega)); omega) | (simp only [thK, rfK, Bool.and_eq_true, Bool.or_eq_true, decide_eq_true_eq] at *; omega))) (by first | omega | (simp only [thK, rfK, Bool.and_eq_true, Bool.or_eq_true, decide_eq_true_eq] at *; omega)) (nE_sub hy (rfl : _ = nI 100) (by first | omega | (have hz := neA_lt hO (i := k - 100) (j := j - 100) (by first | omega | (simp only [thK, rfK, Bool.and_eq_true, Bool.or_eq_true, decide_eq_true_eq] at *; omega)) (by first | omega | (simp only [thK, rfK, Bool.and_eq_true, Bool.or_eq_true, decide_eq_true_eq] at *; omega)); omega) | (simp only [thK, rfK, Bool.and_eq_true, Bool.or_eq_true, decide_eq_true_eq] at *; omega))) (by first | omega | (simp only [thK, rfK, Bool.and_eq_true, Bool.or_eq_true, decide_eq_true_eq] at *; omega))) (fun rv3 s3 hq3 => ?_)
            obtain ⟨rfl, hq3⟩ := hq3
            replace hq3 := hq3.symm
            subst hq3
            refine Wp.go rfl ?_
            refine Wp.ret rfl ?_
            exact ⟨rvN (nE_add (rfl : _ = nI 100) rfl) (by simp_all [jnA]), rfl⟩
          · iterate 2 refine Wp.go rfl ?_
            refine Wp.ret rfl ?_
            exact ⟨rvN hx (by simp_all [jnA]), rfl⟩
        · refine Wp.go rfl ?_
          refine Wp.ret rfl ?_
          exact ⟨rvN hy (by simp_all [jnA]), rfl⟩
      · refine Wp.go rfl ?_
        refine Wp.ret rfl ?_
        exact ⟨rvN (rfl : _ = nI 0) (by simp_all [jnA]), rfl⟩
  · refine Wp.go rfl ?_
    refine Wp.ret rfl ?_
    exact ⟨rvN hx (by simp_all [jnA]), rfl⟩

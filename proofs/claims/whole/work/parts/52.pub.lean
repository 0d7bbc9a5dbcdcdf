set_option maxRecDepth 100000 in
theorem sX1_has' {P : pT} {σ : mc_G} (hP : cCode P σ) (hO1 : pn P ≤ 30 ∧ qn P ≤ 4) {x : Int32} {k : Nat} (hx : x = nI k) (hk : k < 2 ^ 31) : Wp miX1_has 0 [(0, .inr (some 4)), (1, .inl x)] [] σ (fun rv σ' => rv = some (.inl (bI (decide (k < pn P)))) ∧ σ' = σ) := by
  iterate 2 refine Wp.go rfl ?_
  refine Wp.ltN (a := k) (b := 0) hx (rfl : _ = nI 0) (by omega) (by omega) (fun (h1 : k < 0) => ?_) (fun (h1 : ¬ k < 0) => ?_)
  · refine Wp.go rfl ?_
    refine Wp.ret rfl ?_
    exact ⟨rv0 (by simp; omega), rfl⟩
  · iterate 4 refine Wp.go rfl ?_
    refine Wp.geN (a := k) (b := pn P) hx hP.1 (by omega) (by omega) (fun (h2 : ¬ k < pn P) => ?_) (fun (h2 : k < pn P) => ?_)
    · refine Wp.go rfl ?_
      refine Wp.ret rfl ?_
      exact ⟨rv0 (by simp; omega), rfl⟩
    · iterate 3 refine Wp.go rfl ?_
      refine Wp.geN (a := k) (b := 30) hx (rfl : _ = nI 30) (by omega) (by omega) (fun (h3 : ¬ k < 30) => ?_) (fun (h3 : k < 30) => ?_)
      · refine Wp.go rfl ?_
        refine Wp.ret rfl ?_
        exact ⟨rv0 (by simp; omega), rfl⟩
      · iterate 2 refine Wp.go rfl ?_
        refine Wp.ret rfl ?_
        exact ⟨rv1 (by simp; omega), rfl⟩
set_option maxRecDepth 100000 in
theorem sX1_has_n {σ : mc_G} {x : Int32} (hx : x < 0) : Wp miX1_has 0 [(0, .inr (some 4)), (1, .inl x)] [] σ (fun rv σ' => rv = some (.inl (bI false)) ∧ σ' = σ) := by
  iterate 2 refine Wp.go rfl ?_
  refine Wp.ltI (rfl : _ = x) (rfl : _ = nI 0) (fun _ => ?_) (fun q => absurd (neg_lt hx (by omega)) q)
  refine Wp.go rfl ?_
  refine Wp.ret rfl ?_
  exact ⟨rfl, rfl⟩
set_option maxRecDepth 100000 in
theorem sX7_isReached' {P : pT} {S : sS} {σ : mc_G} (hP : cCode P σ) (hO1 : pn P ≤ 30 ∧ qn P ≤ 4) (hS : cSts S σ) {x : Int32} {k : Nat} (hx : x = nI k) (hk : k < 2 ^ 31) : Wp miX7_isReached 0 [(0, .inr (some 17)), (1, .inl x)] [] σ (fun rv σ' => rv = some (.inl (bI (decide (k < pn P) && S.2.1 k))) ∧ σ' = σ) := by
  iterate 3 refine Wp.go rfl ?_
  refine Wp.call rfl cqX1_has (sX1_has' hP hO1 hx hk) (fun rv1 s1 hq1 => ?_)
  obtain ⟨rfl, hq1⟩ := hq1
  replace hq1 := hq1.symm
  subst hq1
  refine Wp.go rfl ?_
  refine Wp.beqD (p := k < pn P) rfl (fun (h1 : ¬ (k < pn P)) => ?_) (fun (h1 : k < pn P) => ?_)
  · refine Wp.go rfl ?_
    refine Wp.ret rfl ?_
    exact ⟨rv0 (by simp [*]), rfl⟩
  · iterate 3 refine Wp.go rfl ?_
    refine Wp.go (if_pos ⟨rfl, rfl, (inE (n := 30) hx (by omega))⟩) ?_
    refine Wp.go rfl ?_
    refine Wp.beqE (rdE hx (by omega) ((hS.1 k (by omega)).2.1)) (fun (h2 : (S.2.1 k) = false) => ?_) (fun (h2 : (S.2.1 k) = true) => ?_)
    · refine Wp.go rfl ?_
      refine Wp.ret rfl ?_
      exact ⟨rv0 (by simp [*]), rfl⟩
    · iterate 2 refine Wp.go rfl ?_
      refine Wp.ret rfl ?_
      exact ⟨rv1 (by simp [*]), rfl⟩
set_option maxRecDepth 100000 in
theorem sX7_isReached_n {σ : mc_G} {x : Int32} (hx : x < 0) : Wp miX7_isReached 0 [(0, .inr (some 17)), (1, .inl x)] [] σ (fun rv σ' => rv = some (.inl (bI false)) ∧ σ' = σ) := by
  iterate 3 refine Wp.go rfl ?_
  refine Wp.call rfl cqX1_has (sX1_has_n hx) (fun rv1 s1 hq1 => ?_)
  obtain ⟨rfl, hq1⟩ := hq1
  replace hq1 := hq1.symm
  subst hq1
  refine Wp.go rfl ?_
  refine Wp.beqE (b := false) rfl (fun _ => ?_) (fun q => by cases q)
  refine Wp.go rfl ?_
  refine Wp.ret rfl ?_
  exact ⟨rfl, rfl⟩
set_option maxRecDepth 100000 in
theorem sX11_state {K : kS} {σ : mc_G} (hK : cCls K σ) (hk : kOk K) {x y : Int32} {u v : Option Nat} (hu : oV x u) (hv : oV y v) : Wp miX11_state 0 [(0, .inr (some 0)), (1, .inl x), (2, .inl y)] [] σ (fun rv σ' => rv = some (.inl (stR K u v)) ∧ cCls K σ' ∧ ofR 0 166 σ σ') := by
  have hp30 : ∀ {p : Nat}, (decide (p < pn K.2.1) && K.2.2.2.1.2.1 p) = true → p < 30 := fun q => by have := hk.2.1; simp at q; omega
  rcases u with _ | p
  · have hx : x < 0 := hu
    rcases v with _ | q
    · have hy : y < 0 := hv
      iterate 2 refine Wp.go rfl ?_
      refine Wp.ltI (rfl : _ = y) (rfl : _ = nI 0) (fun _ => ?_) (fun q => absurd (neg_lt hy (by omega)) q)
      refine Wp.go rfl ?_
      refine Wp.ret rfl ?_
      exact ⟨rfl, hK, ofR.rf⟩
    · obtain ⟨hy, hlq⟩ := hv
      iterate 2 refine Wp.go rfl ?_
      refine Wp.ltN (a := q) (b := 0) hy (rfl : _ = nI 0) (by omega) (by omega) (fun (h1 : q < 0) => ?_) (fun (h1 : ¬ q < 0) => ?_)
      · refine Wp.go rfl ?_
        refine Wp.ret rfl ?_
        have e1 : stR K none (some q) = -2 := by
          show (if q < 14 then _ else _) = _
          rw [if_neg (by omega)]
        exact ⟨by simp only [e1]; first | done | rfl, hK, ofR.rf⟩
      · iterate 3 refine Wp.go rfl ?_
        refine Wp.ltN (a := q) (b := 14) hy (rfl : _ = nI 14) (by omega) (by omega) (fun (h2 : q < 14) => ?_) (fun (h2 : ¬ q < 14) => ?_)
        · iterate 3 refine Wp.go rfl ?_
          refine Wp.beqE hK.2.2.2.2.2.2.2.2.1 (fun (h3 : K.2.2.2.2.2.2.1 = false) => ?_) (fun (h3 : K.2.2.2.2.2.2.1 = true) => ?_)
          · refine Wp.go rfl ?_
            refine Wp.ret rfl ?_
            have e1 : stR K none (some q) = -1 := by
              show (if q < 14 then _ else _) = _
              rw [if_pos (by omega)]
            exact ⟨by simp only [e1]; first | done | rfl, hK, ofR.rf⟩
          · iterate 3 refine Wp.go rfl ?_
            refine Wp.call rfl cqX7_isReached (sX7_isReached_n hx) (fun rv1 s1 hq1 => ?_)
            obtain ⟨rfl, hq1⟩ := hq1
            replace hq1 := hq1.symm
            subst hq1
            refine Wp.go rfl ?_
            refine Wp.bneE (b := false) rfl (fun q => by cases q) (fun _ => ?_)
            refine Wp.go rfl ?_
            refine Wp.ret rfl ?_
            have e1 : stR K none (some q) = -1 := by
              show (if q < 14 then _ else _) = _
              rw [if_pos (by omega)]
            exact ⟨by simp only [e1]; first | done | rfl, hK, ofR.rf⟩
        · refine Wp.go rfl ?_
          refine Wp.ret rfl ?_
          have e1 : stR K none (some q) = -2 := by
            show (if q < 14 then _ else _) = _
            rw [if_neg (by omega)]
          exact ⟨by simp only [e1]; first | done | rfl, hK, ofR.rf⟩
  · obtain ⟨hx, hlp⟩ := hu
    rcases v with _ | q
    · have hy : y < 0 := hv
      iterate 2 refine Wp.go rfl ?_
      refine Wp.ltI (rfl : _ = y) (rfl : _ = nI 0) (fun _ => ?_) (fun q => absurd (neg_lt hy (by omega)) q)
      refine Wp.go rfl ?_
      refine Wp.ret rfl ?_
      exact ⟨rfl, hK, ofR.rf⟩
    · obtain ⟨hy, hlq⟩ := hv
      iterate 2 refine Wp.go rfl ?_
      refine Wp.ltN (a := q) (b := 0) hy (rfl : _ = nI 0) (by omega) (by omega) (fun (h1 : q < 0) => ?_) (fun (h1 : ¬ q < 0) => ?_)
      · refine Wp.go rfl ?_
        refine Wp.ret rfl ?_
        have e1 : stR K (some p) (some q) = -2 := by
          show (if q < 14 then _ else _) = _
          rw [if_neg (by omega)]
        exact ⟨by simp only [e1]; first | done | rfl, hK, ofR.rf⟩
      · iterate 3 refine Wp.go rfl ?_
        refine Wp.ltN (a := q) (b := 14) hy (rfl : _ = nI 14) (by omega) (by omega) (fun (h2 : q < 14) => ?_) (fun (h2 : ¬ q < 14) => ?_)
        · iterate 3 refine Wp.go rfl ?_
          refine Wp.beqE hK.2.2.2.2.2.2.2.2.1 (fun (h3 : K.2.2.2.2.2.2.1 = false) => ?_) (fun (h3 : K.2.2.2.2.2.2.1 = true) => ?_)
          · refine Wp.go rfl ?_
            refine Wp.ret rfl ?_
            have e1 : stR K (some p) (some q) = -1 := by
              show (if q < 14 then (if _ then _ else _) else _) = _
              rw [if_pos (by omega), if_neg (by simp_all)]
            exact ⟨by simp only [e1]; first | done | rfl, hK, ofR.rf⟩
          · iterate 3 refine Wp.go rfl ?_
            refine Wp.call rfl cqX7_isReached (sX7_isReached' hK.2.1 hk.2.1 hK.2.2.2.2.1 hx (by omega)) (fun rv1 s1 hq1 => ?_)
            obtain ⟨rfl, hq1⟩ := hq1
            replace hq1 := hq1.symm
            subst hq1
            refine Wp.go rfl ?_
            refine Wp.bneE rfl (fun (h4 : (decide (p < pn K.2.1) && K.2.2.2.1.2.1 p) = true) => ?_) (fun (h4 : (decide (p < pn K.2.1) && K.2.2.2.1.2.1 p) = false) => ?_)
            · iterate 3 refine Wp.go rfl ?_
              refine Wp.call rfl cqX7_row (sX7_row hx (hp30 h4)) (fun rv2 s2 hq2 => ?_)
              obtain ⟨rfl, hq2⟩ := hq2
              replace hq2 := hq2.symm
              subst hq2
              iterate 3 refine Wp.go rfl ?_
              refine Wp.call (if_pos ⟨((isC_row (hp30 h4))).1, ((isC_row (hp30 h4))).2.1, Nat.le_of_ble_eq_true rfl, Nat.le_of_ble_eq_true rfl⟩) cqX0_holds (sX0_holds (isC_row (hp30 h4)) ((hK.2.2.2.2.1.1 p (hp30 h4)).1) hy (by omega)) (fun rv3 s3 hq3 => ?_)
              obtain ⟨rfl, hq3⟩ := hq3
              replace hq3 := hq3.symm
              subst hq3
              refine Wp.go rfl ?_
              refine Wp.beqD (p := q < 8 + (K.2.2.2.1.1 p).1) rfl (fun (h5 : ¬ (q < 8 + (K.2.2.2.1.1 p).1)) => ?_) (fun (h5 : q < 8 + (K.2.2.2.1.1 p).1) => ?_)
              · refine Wp.go rfl ?_
                refine Wp.ret rfl ?_
                have e1 : stR K (some p) (some q) = -1 := by
                  show (if q < 14 then (if _ then _ else _) else _) = _
                  rw [if_pos (by omega), if_neg (by simp_all)]
                exact ⟨by simp only [e1]; first | done | rfl, hK, ofR.rf⟩
              · iterate 2 refine Wp.go rfl ?_
                refine Wp.call (if_pos ⟨((isC_row (hp30 h4))).1, ((isC_row (hp30 h4))).2.1, Nat.le_of_ble_eq_true rfl, Nat.le_of_ble_eq_true rfl⟩) cqX0_kindAt (sX0_kindAt (isC_row (hp30 h4)) ((hK.2.2.2.2.1.1 p (hp30 h4)).1) hy (by omega)) (fun rv4 s4 hq4 => ?_)
                obtain ⟨rfl, hq4⟩ := hq4
                replace hq4 := hq4.symm
                subst hq4
                refine Wp.go rfl ?_
                refine Wp.ret rfl ?_
                have e1 : stR K (some p) (some q) = nI ((K.2.2.2.1.1 p).2 q) := by
                  show (if q < 14 then (if _ then _ else _) else _) = _
                  rw [if_pos (by omega), if_pos (by simp_all)]
                exact ⟨by simp only [e1]; rw [show nI ((K.2.2.2.1.1 p).2 q) = nI (kA (K.2.2.2.1.1 p) q) from by unfold kA; rw [if_pos (by assumption)]], hK, ofR.rf⟩
            · refine Wp.go rfl ?_
              refine Wp.ret rfl ?_
              have e1 : stR K (some p) (some q) = -1 := by
                show (if q < 14 then (if _ then _ else _) else _) = _
                rw [if_pos (by omega), if_neg (by simp_all)]
              exact ⟨by simp only [e1]; first | done | rfl, hK, ofR.rf⟩
        · refine Wp.go rfl ?_
          refine Wp.ret rfl ?_
          have e1 : stR K (some p) (some q) = -2 := by
            show (if q < 14 then _ else _) = _
            rw [if_neg (by omega)]
          exact ⟨by simp only [e1]; first | done | rfl, hK, ofR.rf⟩

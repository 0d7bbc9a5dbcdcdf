set_option maxRecDepth 100000 in
theorem sX7_isReached {P : pT} {T : tT} {S : sS} {σ : mc_G} (hP : cCode P σ) (hO1 : pn P ≤ 30 ∧ qn P ≤ 4) (hT : cTyp T σ) (hO : tOk T) (hS : cSts S σ) {x : Int32} {k : Nat} (hx : x = nI k) (hk : k ≤ 30) : Wp miX7_isReached 0 [(0, .inr (some 17)), (1, .inl x)] [] σ (fun rv σ' => rv = some (.inl (bI (decide (k < pn P) && S.2.1 k))) ∧ σ' = σ) := by
  iterate 3 refine Wp.go rfl ?_
  refine Wp.call rfl cqX1_has (sX1_has (σ := σ) hP hO1 hx (by omega)) (fun rv1 s1 hq1 => ?_)
  obtain ⟨rfl, hq1⟩ := hq1
  replace hq1 := hq1.symm
  subst hq1
  refine Wp.go rfl ?_
  refine Wp.beqD (p := k < pn P) rfl (fun (h1 : ¬ (k < pn P)) => ?_) (fun (h1 : k < pn P) => ?_)
  · refine Wp.go rfl ?_
    refine Wp.ret rfl ?_
    exact ⟨rv0 (by simp [*]), rfl⟩
  · iterate 3 refine Wp.go rfl ?_
    refine Wp.go (if_pos ⟨rfl, rfl, (inE (n := 30) hx (by omega))⟩) ?_
    refine Wp.go rfl ?_
    refine Wp.beqE (rdE hx (by omega) ((hS).1 k (by omega)).2.1) (fun (h2 : (S.2.1 k) = false) => ?_) (fun (h2 : (S.2.1 k) = true) => ?_)
    · refine Wp.go rfl ?_
      refine Wp.ret rfl ?_
      exact ⟨rv0 (by simp [*]), rfl⟩
    · iterate 2 refine Wp.go rfl ?_
      refine Wp.ret rfl ?_
      exact ⟨rv1 (by simp [*]), rfl⟩
set_option maxRecDepth 100000 in
theorem sX7_meet {P : pT} {T : tT} {S : sS} {σ : mc_G} (hP : cCode P σ) (hO1 : pn P ≤ 30 ∧ qn P ≤ 4) (hT : cTyp T σ) (hO : tOk T) (hS : cSts S σ) {x : Int32} {k : Nat} (hx : x = nI k) (hk : k ≤ 30) {d : Nat} {e : cS} (hd : d = 84 ∨ d = 11) (hD : isC d) (he : cCel d e σ) : Wp miX7_meet 0 [(0, .inr (some 17)), (1, .inl x), (2, .inr (some d))] [] σ (fun rv σ' => rv = none ∧ cSts (mtA T (pn P) S k e) σ' ∧ offT σ σ') := by
  iterate 3 refine Wp.go rfl ?_
  refine Wp.call rfl cqX1_has (sX1_has hP hO1 hx (by omega)) (fun rv1 s1 hq1 => ?_)
  obtain ⟨rfl, hq1⟩ := hq1
  replace hq1 := hq1.symm
  subst hq1
  refine Wp.go rfl ?_
  refine Wp.bneD (p := k < pn P) rfl (fun h1 => ?_) (fun h1 => ?_)
  rotate_left
  · refine Wp.ret rfl ?_
    refine ⟨rfl, ?_, offT.rf⟩
    unfold mtA; rw [if_neg h1]; exact hS
  have hk30 : k < 30 := by omega
  have hap : apC (22 + 2 * k) d := by rcases hd with rfl | rfl <;> exact ⟨by omega, by omega, by omega⟩
  have hr := (hS.1 k hk30).1
  have hCr := isC_row hk30
  iterate 3 refine Wp.go rfl ?_
  refine Wp.go (if_pos ⟨rfl, rfl, inE (n := 30) hx hk30⟩) ?_
  refine Wp.go rfl ?_
  refine Wp.bneE (b := S.2.1 k) (rdE hx (by omega) (hS.1 k hk30).2.1) (fun h2 => ?_) (fun h2 => ?_)
  · -- it was there: it is joined
    iterate 8 refine Wp.go rfl ?_
    refine Wp.call rfl cqX7_row (sX7_row hx hk30) (fun rv2 s2 hq2 => ?_)
    obtain ⟨rfl, hq2⟩ := hq2
    replace hq2 := hq2.symm
    subst hq2
    iterate 3 refine Wp.go rfl ?_
    refine Wp.call (if_pos ⟨hCr.1, hCr.2.1, Nat.le_of_ble_eq_true rfl, Nat.le_of_ble_eq_true rfl⟩) cqX0_joinWith (sX0_joinWith hT hO hCr hD hr he hap (by omega)) (fun rv3 s3 hq3 => ?_)
    obtain ⟨rfl, hc3, ho3⟩ := hq3
    obtain ⟨hS3, hf3⟩ := hS.row hk30 ho3 hc3
    refine Wp.go rfl ?_
    refine Wp.beqE (b := jcA T (S.1 k) e (8 + (S.1 k).1)) rfl (fun h3 => ?_) (fun h3 => ?_)
    · refine Wp.ret rfl ?_
      refine ⟨rfl, ?_, hf3⟩
      unfold mtA
      rw [if_pos h1, if_neg (by rw [h2]; decide), if_neg (by rw [h3]; decide)]
      exact hS3
    · iterate 4 refine Wp.go rfl ?_
      refine Wp.go (if_pos ⟨(show 83 < 187 by decide), rfl, inE (n := 30) hx hk30, Or.inr rfl⟩) ?_
      iterate 3 refine Wp.go rfl ?_
      obtain ⟨hS4, hf4⟩ := hS3.wai (v := 1) (b := true) hx hk30 rfl
      obtain ⟨hS5, hf5⟩ := hS4.chg (v := 1) (b := true) rfl
      refine Wp.ret rfl ?_
      refine ⟨rfl, ?_, (hf3.tr hf4).tr hf5⟩
      unfold mtA
      rw [if_pos h1, if_neg (by rw [h2]; decide), if_pos h3]
      exact hS5
  · -- it is new
    iterate 9 refine Wp.go rfl ?_
    refine Wp.go (if_pos ⟨(show 82 < 187 by decide), rfl, inE (n := 30) hx hk30, Or.inr rfl⟩) ?_
    obtain ⟨hS3, hf3⟩ := hS.rch (v := 1) (b := true) hx hk30 rfl
    iterate 2 refine Wp.go rfl ?_
    refine Wp.call rfl cqX7_row (sX7_row hx hk30) (fun rv2 s2 hq2 => ?_)
    obtain ⟨rfl, hq2⟩ := hq2
    replace hq2 := hq2.symm
    subst hq2
    refine Wp.go rfl ?_
    have he3 : cCel d e (mc_up σ 82 x.toNatClampNeg 1) := he.to (mc_upn _ _ _ (by omega)) (mc_upn _ _ _ (by omega))
    refine Wp.call (if_pos ⟨hCr.1, hCr.2.1, Nat.le_of_ble_eq_true rfl, Nat.le_of_ble_eq_true rfl⟩) cqX0_becomeLike (sX0_becomeLike hCr hD (hS3.1 k hk30).1 he3 hap) (fun rv4 s4 hq4 => ?_)
    obtain ⟨rfl, hc4, ho4⟩ := hq4
    obtain ⟨hS4, hf4⟩ := hS3.row hk30 ho4 hc4
    iterate 6 refine Wp.go rfl ?_
    refine Wp.go (if_pos ⟨(show 83 < 187 by decide), rfl, inE (n := 30) hx hk30, Or.inr rfl⟩) ?_
    iterate 3 refine Wp.go rfl ?_
    obtain ⟨hS5, hf5⟩ := hS4.wai (v := 1) (b := true) hx hk30 rfl
    obtain ⟨hS6, hf6⟩ := hS5.chg (v := 1) (b := true) rfl
    refine Wp.ret rfl ?_
    refine ⟨rfl, ?_, ((hf3.tr hf4).tr hf5).tr hf6⟩
    unfold mtA
    rw [if_pos h1, if_pos h2]
    exact hS6

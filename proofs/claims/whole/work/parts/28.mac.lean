set_option maxRecDepth 100000 in
theorem sX11_takes {σ : mc_G} (hS : cSta σ) {x : Int32} {k : Nat} (hx : x = nI k) (hk : k ≤ 20) : Wp miX11_takes 0 [(0, .inl x)] [] σ (fun rv σ' => rv = some (.inl (nI (tkA k))) ∧ σ' = σ) := by
  iterate 2 refine Wp.go rfl ?_
  refine Wp.ltN (a := k) (b := 0) hx (rfl : _ = nI 0) (by omega) (by omega) (fun (h1 : k < 0) => ?_) (fun (h1 : ¬ k < 0) => ?_)
  · refine Wp.go rfl ?_
    refine Wp.ret rfl ?_
    exfalso; omega
  · iterate 4 refine Wp.go rfl ?_
    refine Wp.geN (a := k) (b := 21) hx (rfl : _ = nI 21) (by omega) (by omega) (fun (h2 : ¬ k < 21) => ?_) (fun (h2 : k < 21) => ?_)
    · refine Wp.go rfl ?_
      refine Wp.ret rfl ?_
      exfalso; omega
    · iterate 2 refine Wp.go rfl ?_
      refine Wp.go (if_pos ⟨rfl, rfl, (inE (n := 21) hx (by omega))⟩) ?_
      refine Wp.go rfl ?_
      refine Wp.ret rfl ?_
      exact ⟨rvN (rdE hx (by omega) (hS k (by omega)).1) rfl, rfl⟩
set_option maxRecDepth 100000 in
theorem sX11_gives {σ : mc_G} (hS : cSta σ) {x : Int32} {k : Nat} (hx : x = nI k) (hk : k ≤ 20) : Wp miX11_gives 0 [(0, .inl x)] [] σ (fun rv σ' => rv = some (.inl (nI (gvA k))) ∧ σ' = σ) := by
  iterate 2 refine Wp.go rfl ?_
  refine Wp.ltN (a := k) (b := 0) hx (rfl : _ = nI 0) (by omega) (by omega) (fun (h1 : k < 0) => ?_) (fun (h1 : ¬ k < 0) => ?_)
  · refine Wp.go rfl ?_
    refine Wp.ret rfl ?_
    exfalso; omega
  · iterate 4 refine Wp.go rfl ?_
    refine Wp.geN (a := k) (b := 21) hx (rfl : _ = nI 21) (by omega) (by omega) (fun (h2 : ¬ k < 21) => ?_) (fun (h2 : k < 21) => ?_)
    · refine Wp.go rfl ?_
      refine Wp.ret rfl ?_
      exfalso; omega
    · iterate 2 refine Wp.go rfl ?_
      refine Wp.go (if_pos ⟨rfl, rfl, (inE (n := 21) hx (by omega))⟩) ?_
      refine Wp.go rfl ?_
      refine Wp.ret rfl ?_
      exact ⟨rvN (rdE hx (by omega) (hS k (by omega)).2) rfl, rfl⟩
set_option maxRecDepth 100000 in
theorem sX11_isWhole {σ : mc_G} {x : Int32} {k : Nat} (hx : x = nI k) (hk : k < 2 ^ 31) : Wp miX11_isWhole 0 [(0, .inl x)] [] σ (fun rv σ' => rv = some (.inl (bI (whK k))) ∧ σ' = σ) := by
  iterate 2 refine Wp.go rfl ?_
  refine Wp.eqN (a := k) (b := 0) hx (rfl : _ = nI 0) (by omega) (by omega) (fun (h1 : k = 0) => ?_) (fun (h1 : ¬ k = 0) => ?_)
  · refine Wp.go rfl ?_
    refine Wp.ret rfl ?_
    exact ⟨rv0 (by simp [whK, *]), rfl⟩
  · iterate 3 refine Wp.go rfl ?_
    refine Wp.eqN (a := k) (b := 2) hx (rfl : _ = nI 2) (by omega) (by omega) (fun (h2 : k = 2) => ?_) (fun (h2 : ¬ k = 2) => ?_)
    · refine Wp.go rfl ?_
      refine Wp.ret rfl ?_
      exact ⟨rv0 (by simp [whK, *]), rfl⟩
    · iterate 3 refine Wp.go rfl ?_
      refine Wp.eqN (a := k) (b := 3) hx (rfl : _ = nI 3) (by omega) (by omega) (fun (h3 : k = 3) => ?_) (fun (h3 : ¬ k = 3) => ?_)
      · refine Wp.go rfl ?_
        refine Wp.ret rfl ?_
        exact ⟨rv0 (by simp [whK, *]), rfl⟩
      · iterate 2 refine Wp.go rfl ?_
        refine Wp.ret rfl ?_
        exact ⟨rv1 (by simp [whK, *]), rfl⟩
set_option maxRecDepth 100000 in
theorem sX11_isLong {σ : mc_G} {x y : Int32} {k j : Nat} (hx : x = nI k) (hk : k < 2 ^ 31) (hy : y = nI j) (hj : j < 2 ^ 31) : Wp miX11_isLong 0 [(0, .inl x), (1, .inl y)] [] σ (fun rv σ' => rv = some (.inl (bI (loK k j))) ∧ σ' = σ) := by
  iterate 3 refine Wp.go rfl ?_
  refine Wp.neN (a := k) (b := 2) hx (rfl : _ = nI 2) (by omega) (by omega) (fun (h1 : ¬ k = 2) => ?_) (fun (h1 : k = 2) => ?_)
  · refine Wp.go rfl ?_
    refine Wp.ret rfl ?_
    exact ⟨rv0 (by simp [loK, *]), rfl⟩
  · iterate 3 refine Wp.go rfl ?_
    refine Wp.neN (a := j) (b := 3) hy (rfl : _ = nI 3) (by omega) (by omega) (fun (h2 : ¬ j = 3) => ?_) (fun (h2 : j = 3) => ?_)
    · refine Wp.go rfl ?_
      refine Wp.ret rfl ?_
      exact ⟨rv0 (by simp [loK, *]), rfl⟩
    · iterate 2 refine Wp.go rfl ?_
      refine Wp.ret rfl ?_
      exact ⟨rv1 (by simp [loK, *]), rfl⟩
set_option maxRecDepth 100000 in
set_option maxHeartbeats 2000000 in
theorem sX5_suits {P : pT} {T : tT} {a : Nat} {c : cS} {σ : mc_G} (hP : cCode P σ) (hO1 : pn P ≤ 30 ∧ qn P ≤ 4) (hp20 : ∀ k, k < pn P → po P k ≤ 20) (hT : cTyp T σ) (hO : tOk T) (hC : isC a) (hc : cCel a c σ) {x : Int32} {k q : Nat} (hx : x = nI k) (hk : k < 30) (hqa : (opA P k = 3 ∨ opA P k = 4 ∨ opA P k = 5 ∨ opA P k = 6 ∨ opA P k = 14 ∨ opA P k = 15) → nuA P k = nI q ∧ q < 8) : Wp miX5_suits 0 [(0, .inr (some 16)), (1, .inr (some a)), (2, .inl x)] [] σ (fun rv σ' => rv = some (.inl (bI (suA T (opA P k) q c))) ∧ σ' = σ) := by
  have hop : opA P k ≤ 20 := by unfold opA; split; exact hp20 k ‹_›; decide
  have hh6 := hc.2.1
  iterate 3 refine Wp.go rfl ?_
  refine Wp.call rfl cqX1_opAt (sX1_opAt (σ := σ) hP hO1 hx (by omega)) (fun rv1 s1 hq1 => ?_)
  obtain ⟨rfl, hq1⟩ := hq1
  replace hq1 := hq1.symm
  subst hq1
  iterate 4 refine Wp.go rfl ?_
  refine Wp.call rfl cqX1_numberAt (sX1_numberAt (σ := σ) hP hO1 hx (by omega)) (fun rv2 s2 hq2 => ?_)
  obtain ⟨rfl, hq2⟩ := hq2
  replace hq2 := hq2.symm
  subst hq2
  iterate 3 refine Wp.go rfl ?_
  refine Wp.call (if_pos ⟨(hC).1, (hC).2.1, Nat.le_of_ble_eq_true rfl, Nat.le_of_ble_eq_true rfl⟩) cqX0_fromTop (sX0_fromTop (σ := σ) (c := c) hC (hc) (rfl : _ = nI 0) (by omega)) (fun rv3 s3 hq3 => ?_)
  obtain ⟨rfl, hq3⟩ := hq3
  replace hq3 := hq3.symm
  subst hq3
  iterate 3 refine Wp.go rfl ?_
  refine Wp.call (if_pos ⟨(hC).1, (hC).2.1, Nat.le_of_ble_eq_true rfl, Nat.le_of_ble_eq_true rfl⟩) cqX0_fromTop (sX0_fromTop (σ := σ) (c := c) hC (hc) (rfl : _ = nI 1) (by omega)) (fun rv4 s4 hq4 => ?_)
  obtain ⟨rfl, hq4⟩ := hq4
  replace hq4 := hq4.symm
  subst hq4
  iterate 3 refine Wp.go rfl ?_
  rcases (show opA P k < 3 ∨ opA P k = 3 ∨ opA P k = 4 ∨ opA P k = 5 ∨ opA P k = 6 ∨ opA P k = 7 ∨ opA P k = 8 ∨ opA P k = 9 ∨ opA P k = 10 ∨ opA P k = 11 ∨ opA P k = 12 ∨ opA P k = 13 ∨ opA P k = 14 ∨ opA P k = 15 ∨ opA P k = 16 ∨ opA P k = 17 ∨ opA P k = 18 ∨ opA P k = 19 ∨ opA P k = 20 ∨ 20 < opA P k by omega) with hs | hs | hs | hs | hs | hs | hs | hs | hs | hs | hs | hs | hs | hs | hs | hs | hs | hs | hs | hs
  · refine Wp.swO rfl (by omega) (by omega) ?_
    refine Wp.go rfl ?_
    refine Wp.ret rfl ?_
    exact ⟨rv1 (by first | (exfalso; omega) | (unfold suA; repeat rw [if_neg (by omega)])), rfl⟩
  · refine Wp.swI 0 rfl (by omega) (by omega) (by omega) ?_
    have hA := hqa (by omega)
    have hA8 := hA.2
    iterate 2 refine Wp.go rfl ?_
    refine Wp.call (if_pos ⟨(hC).1, (hC).2.1, Nat.le_of_ble_eq_true rfl, Nat.le_of_ble_eq_true rfl⟩) cqX0_kindAt (sX0_kindAt (σ := σ) (c := c) hC (hc) hA.1 (by first | omega | exact Nat.lt_trans (kA_lt hc _) (by decide) | exact Nat.lt_trans (tpA_lt hc _) (by decide))) (fun rv5 s5 hq5 => ?_)
    obtain ⟨rfl, hq5⟩ := hq5
    replace hq5 := hq5.symm
    subst hq5
    refine Wp.call rfl cqX11_isWhole (sX11_isWhole (σ := σ) rfl (by first | omega | exact Nat.lt_trans (kA_lt hc _) (by decide) | exact Nat.lt_trans (tpA_lt hc _) (by decide))) (fun rv6 s6 hq6 => ?_)
    obtain ⟨rfl, hq6⟩ := hq6
    replace hq6 := hq6.symm
    subst hq6
    refine Wp.ret (if_pos (Or.inr (bE_01 rfl))) ?_
    exact ⟨rvB rfl (by simp only [suA]; simp_all), rfl⟩
  · refine Wp.swI 1 rfl (by omega) (by omega) (by omega) ?_
    have hA := hqa (by omega)
    have hA8 := hA.2
    iterate 2 refine Wp.go rfl ?_
    refine Wp.call (if_pos ⟨(hC).1, (hC).2.1, Nat.le_of_ble_eq_true rfl, Nat.le_of_ble_eq_true rfl⟩) cqX0_kindAt (sX0_kindAt (σ := σ) (c := c) hC (hc) hA.1 (by first | omega | exact Nat.lt_trans (kA_lt hc _) (by decide) | exact Nat.lt_trans (tpA_lt hc _) (by decide))) (fun rv7 s7 hq7 => ?_)
    obtain ⟨rfl, hq7⟩ := hq7
    replace hq7 := hq7.symm
    subst hq7
    iterate 4 refine Wp.go rfl ?_
    refine Wp.call (if_pos ⟨(hC).1, (hC).2.1, Nat.le_of_ble_eq_true rfl, Nat.le_of_ble_eq_true rfl⟩) cqX0_kindAt (sX0_kindAt (σ := σ) (c := c) hC (hc) (nE_add hA.1 (rfl : _ = nI 1)) (by first | omega | exact Nat.lt_trans (kA_lt hc _) (by decide) | exact Nat.lt_trans (tpA_lt hc _) (by decide))) (fun rv8 s8 hq8 => ?_)
    obtain ⟨rfl, hq8⟩ := hq8
    replace hq8 := hq8.symm
    subst hq8
    refine Wp.call rfl cqX11_isLong (sX11_isLong (σ := σ) rfl (by first | omega | exact Nat.lt_trans (kA_lt hc _) (by decide) | exact Nat.lt_trans (tpA_lt hc _) (by decide)) rfl (by first | omega | exact Nat.lt_trans (kA_lt hc _) (by decide) | exact Nat.lt_trans (tpA_lt hc _) (by decide))) (fun rv9 s9 hq9 => ?_)
    obtain ⟨rfl, hq9⟩ := hq9
    replace hq9 := hq9.symm
    subst hq9
    refine Wp.ret (if_pos (Or.inr (bE_01 rfl))) ?_
    exact ⟨rvB rfl (by simp only [suA]; simp_all), rfl⟩
  · refine Wp.swI 2 rfl (by omega) (by omega) (by omega) ?_
    have hA := hqa (by omega)
    have hA8 := hA.2
    refine Wp.go rfl ?_
    refine Wp.call rfl cqX11_isWhole (sX11_isWhole (σ := σ) rfl (by first | omega | exact Nat.lt_trans (kA_lt hc _) (by decide) | exact Nat.lt_trans (tpA_lt hc _) (by decide))) (fun rv10 s10 hq10 => ?_)
    obtain ⟨rfl, hq10⟩ := hq10
    replace hq10 := hq10.symm
    subst hq10
    refine Wp.ret (if_pos (Or.inr (bE_01 rfl))) ?_
    exact ⟨rvB rfl (by simp only [suA]; simp_all), rfl⟩
  · refine Wp.swI 3 rfl (by omega) (by omega) (by omega) ?_
    have hA := hqa (by omega)
    have hA8 := hA.2
    iterate 2 refine Wp.go rfl ?_
    refine Wp.call rfl cqX11_isLong (sX11_isLong (σ := σ) rfl (by first | omega | exact Nat.lt_trans (kA_lt hc _) (by decide) | exact Nat.lt_trans (tpA_lt hc _) (by decide)) rfl (by first | omega | exact Nat.lt_trans (kA_lt hc _) (by decide) | exact Nat.lt_trans (tpA_lt hc _) (by decide))) (fun rv11 s11 hq11 => ?_)
    obtain ⟨rfl, hq11⟩ := hq11
    replace hq11 := hq11.symm
    subst hq11
    refine Wp.ret (if_pos (Or.inr (bE_01 rfl))) ?_
    exact ⟨rvB rfl (by simp only [suA]; simp_all), rfl⟩
  · refine Wp.swI 4 rfl (by omega) (by omega) (by omega) ?_
    refine Wp.go rfl ?_
    refine Wp.call rfl cqX11_isWhole (sX11_isWhole (σ := σ) rfl (by first | omega | exact Nat.lt_trans (kA_lt hc _) (by decide) | exact Nat.lt_trans (tpA_lt hc _) (by decide))) (fun rv12 s12 hq12 => ?_)
    obtain ⟨rfl, hq12⟩ := hq12
    replace hq12 := hq12.symm
    subst hq12
    refine Wp.ret (if_pos (Or.inr (bE_01 rfl))) ?_
    exact ⟨rvB rfl (by simp only [suA]; simp_all), rfl⟩
  · refine Wp.swI 5 rfl (by omega) (by omega) (by omega) ?_
    iterate 2 refine Wp.go rfl ?_
    refine Wp.call rfl cqX11_isLong (sX11_isLong (σ := σ) rfl (by first | omega | exact Nat.lt_trans (kA_lt hc _) (by decide) | exact Nat.lt_trans (tpA_lt hc _) (by decide)) rfl (by first | omega | exact Nat.lt_trans (kA_lt hc _) (by decide) | exact Nat.lt_trans (tpA_lt hc _) (by decide))) (fun rv13 s13 hq13 => ?_)
    obtain ⟨rfl, hq13⟩ := hq13
    replace hq13 := hq13.symm
    subst hq13
    refine Wp.go rfl ?_
    refine Wp.bneE rfl (fun (h1 : (loK (tpA c 1) (tpA c 0)) = true) => ?_) (fun (h1 : (loK (tpA c 1) (tpA c 0)) = false) => ?_)
    · iterate 2 refine Wp.go rfl ?_
      refine Wp.ret rfl ?_
      exact ⟨rv1 (by simp only [suA]; simp_all), rfl⟩
    · refine Wp.go rfl ?_
      refine Wp.call rfl cqX11_isWhole (sX11_isWhole (σ := σ) rfl (by first | omega | exact Nat.lt_trans (kA_lt hc _) (by decide) | exact Nat.lt_trans (tpA_lt hc _) (by decide))) (fun rv14 s14 hq14 => ?_)
      obtain ⟨rfl, hq14⟩ := hq14
      replace hq14 := hq14.symm
      subst hq14
      refine Wp.go rfl ?_
      refine Wp.beqE rfl (fun (h2 : (whK (tpA c 1)) = false) => ?_) (fun (h2 : (whK (tpA c 1)) = true) => ?_)
      · refine Wp.go rfl ?_
        refine Wp.ret rfl ?_
        exact ⟨rv0 (by simp only [suA]; simp_all), rfl⟩
      · refine Wp.go rfl ?_
        refine Wp.call rfl cqX11_isWhole (sX11_isWhole (σ := σ) rfl (by first | omega | exact Nat.lt_trans (kA_lt hc _) (by decide) | exact Nat.lt_trans (tpA_lt hc _) (by decide))) (fun rv15 s15 hq15 => ?_)
        obtain ⟨rfl, hq15⟩ := hq15
        replace hq15 := hq15.symm
        subst hq15
        refine Wp.go rfl ?_
        refine Wp.beqE rfl (fun (h3 : (whK (tpA c 0)) = false) => ?_) (fun (h3 : (whK (tpA c 0)) = true) => ?_)
        · refine Wp.go rfl ?_
          refine Wp.ret rfl ?_
          exact ⟨rv0 (by simp only [suA]; simp_all), rfl⟩
        · iterate 2 refine Wp.go rfl ?_
          refine Wp.ret rfl ?_
          exact ⟨rv1 (by simp only [suA]; simp_all), rfl⟩
  · refine Wp.swI 6 rfl (by omega) (by omega) (by omega) ?_
    refine Wp.go rfl ?_
    refine Wp.call rfl cqX11_isWhole (sX11_isWhole (σ := σ) rfl (by first | omega | exact Nat.lt_trans (kA_lt hc _) (by decide) | exact Nat.lt_trans (tpA_lt hc _) (by decide))) (fun rv16 s16 hq16 => ?_)
    obtain ⟨rfl, hq16⟩ := hq16
    replace hq16 := hq16.symm
    subst hq16
    refine Wp.ret (if_pos (Or.inr (bE_01 rfl))) ?_
    exact ⟨rvB rfl (by simp only [suA]; simp_all), rfl⟩
  · refine Wp.swI 7 rfl (by omega) (by omega) (by omega) ?_
    iterate 3 refine Wp.go rfl ?_
    refine Wp.neN (a := tpA c 1) (b := 1) rfl (rfl : _ = nI 1) (by first | omega | exact Nat.lt_trans (kA_lt hc _) (by decide) | exact Nat.lt_trans (tpA_lt hc _) (by decide)) (by first | omega | exact Nat.lt_trans (kA_lt hc _) (by decide) | exact Nat.lt_trans (tpA_lt hc _) (by decide)) (fun (h4 : ¬ tpA c 1 = 1) => ?_) (fun (h4 : tpA c 1 = 1) => ?_)
    · refine Wp.go rfl ?_
      refine Wp.ret rfl ?_
      exact ⟨rv0 (by simp only [suA]; simp_all), rfl⟩
    · iterate 3 refine Wp.go rfl ?_
      refine Wp.neN (a := tpA c 0) (b := 1) rfl (rfl : _ = nI 1) (by first | omega | exact Nat.lt_trans (kA_lt hc _) (by decide) | exact Nat.lt_trans (tpA_lt hc _) (by decide)) (by first | omega | exact Nat.lt_trans (kA_lt hc _) (by decide) | exact Nat.lt_trans (tpA_lt hc _) (by decide)) (fun (h5 : ¬ tpA c 0 = 1) => ?_) (fun (h5 : tpA c 0 = 1) => ?_)
      · refine Wp.go rfl ?_
        refine Wp.ret rfl ?_
        exact ⟨rv0 (by simp only [suA]; simp_all), rfl⟩
      · iterate 2 refine Wp.go rfl ?_
        refine Wp.ret rfl ?_
        exact ⟨rv1 (by simp only [suA]; simp_all), rfl⟩
  · refine Wp.swI 8 rfl (by omega) (by omega) (by omega) ?_
    iterate 2 refine Wp.go rfl ?_
    refine Wp.call (if_pos ⟨(hC).1, (hC).2.1, Nat.le_of_ble_eq_true rfl, Nat.le_of_ble_eq_true rfl⟩) cqX0_fromTop (sX0_fromTop (σ := σ) (c := c) hC (hc) (rfl : _ = nI 3) (by omega)) (fun rv17 s17 hq17 => ?_)
    obtain ⟨rfl, hq17⟩ := hq17
    replace hq17 := hq17.symm
    subst hq17
    iterate 2 refine Wp.go rfl ?_
    refine Wp.call (if_pos ⟨(hC).1, (hC).2.1, Nat.le_of_ble_eq_true rfl, Nat.le_of_ble_eq_true rfl⟩) cqX0_fromTop (sX0_fromTop (σ := σ) (c := c) hC (hc) (rfl : _ = nI 2) (by omega)) (fun rv18 s18 hq18 => ?_)
    obtain ⟨rfl, hq18⟩ := hq18
    replace hq18 := hq18.symm
    subst hq18
    refine Wp.call rfl cqX11_isLong (sX11_isLong (σ := σ) rfl (by first | omega | exact Nat.lt_trans (kA_lt hc _) (by decide) | exact Nat.lt_trans (tpA_lt hc _) (by decide)) rfl (by first | omega | exact Nat.lt_trans (kA_lt hc _) (by decide) | exact Nat.lt_trans (tpA_lt hc _) (by decide))) (fun rv19 s19 hq19 => ?_)
    obtain ⟨rfl, hq19⟩ := hq19
    replace hq19 := hq19.symm
    subst hq19
    refine Wp.go rfl ?_
    refine Wp.beqE rfl (fun (h6 : (loK (tpA c 3) (tpA c 2)) = false) => ?_) (fun (h6 : (loK (tpA c 3) (tpA c 2)) = true) => ?_)
    · refine Wp.go rfl ?_
      refine Wp.ret rfl ?_
      exact ⟨rv0 (by simp only [suA]; simp_all), rfl⟩
    · iterate 2 refine Wp.go rfl ?_
      refine Wp.call rfl cqX11_isLong (sX11_isLong (σ := σ) rfl (by first | omega | exact Nat.lt_trans (kA_lt hc _) (by decide) | exact Nat.lt_trans (tpA_lt hc _) (by decide)) rfl (by first | omega | exact Nat.lt_trans (kA_lt hc _) (by decide) | exact Nat.lt_trans (tpA_lt hc _) (by decide))) (fun rv20 s20 hq20 => ?_)
      obtain ⟨rfl, hq20⟩ := hq20
      replace hq20 := hq20.symm
      subst hq20
      refine Wp.go rfl ?_
      refine Wp.beqE rfl (fun (h7 : (loK (tpA c 1) (tpA c 0)) = false) => ?_) (fun (h7 : (loK (tpA c 1) (tpA c 0)) = true) => ?_)
      · refine Wp.go rfl ?_
        refine Wp.ret rfl ?_
        exact ⟨rv0 (by simp only [suA]; simp_all), rfl⟩
      · iterate 2 refine Wp.go rfl ?_
        refine Wp.ret rfl ?_
        exact ⟨rv1 (by simp only [suA]; simp_all), rfl⟩
  · refine Wp.swI 9 rfl (by omega) (by omega) (by omega) ?_
    refine Wp.go rfl ?_
    refine Wp.ret rfl ?_
    exact ⟨rv1 (by simp only [suA]; simp_all), rfl⟩
  · refine Wp.swI 10 rfl (by omega) (by omega) (by omega) ?_
    refine Wp.go rfl ?_
    refine Wp.call rfl cqX11_isBegun (sX11_isBegun (σ := σ) rfl (by first | omega | exact Nat.lt_trans (kA_lt hc _) (by decide) | exact Nat.lt_trans (tpA_lt hc _) (by decide))) (fun rv21 s21 hq21 => ?_)
    obtain ⟨rfl, hq21⟩ := hq21
    replace hq21 := hq21.symm
    subst hq21
    refine Wp.ret (if_pos (Or.inr (bE_01 rfl))) ?_
    exact ⟨rvB rfl (by simp only [suA]; simp_all), rfl⟩
  · refine Wp.swI 11 rfl (by omega) (by omega) (by omega) ?_
    have hA := hqa (by omega)
    have hA8 := hA.2
    iterate 3 refine Wp.go rfl ?_
    refine Wp.call rfl cqX9_isReference (sX9_isReference (σ := σ) hT hO rfl (by first | omega | exact Nat.lt_trans (kA_lt hc _) (by decide) | exact Nat.lt_trans (tpA_lt hc _) (by decide))) (fun rv22 s22 hq22 => ?_)
    obtain ⟨rfl, hq22⟩ := hq22
    replace hq22 := hq22.symm
    subst hq22
    refine Wp.ret (if_pos (Or.inr (bE_01 rfl))) ?_
    exact ⟨rvB rfl (by simp only [suA]; simp_all), rfl⟩
  · refine Wp.swI 12 rfl (by omega) (by omega) (by omega) ?_
    have hA := hqa (by omega)
    have hA8 := hA.2
    iterate 3 refine Wp.go rfl ?_
    refine Wp.call rfl cqX9_isReference (sX9_isReference (σ := σ) hT hO rfl (by first | omega | exact Nat.lt_trans (kA_lt hc _) (by decide) | exact Nat.lt_trans (tpA_lt hc _) (by decide))) (fun rv23 s23 hq23 => ?_)
    obtain ⟨rfl, hq23⟩ := hq23
    replace hq23 := hq23.symm
    subst hq23
    refine Wp.go rfl ?_
    refine Wp.beqE rfl (fun (h8 : (rfK T (tpA c 0)) = false) => ?_) (fun (h8 : (rfK T (tpA c 0)) = true) => ?_)
    · refine Wp.go rfl ?_
      refine Wp.ret rfl ?_
      exact ⟨rv0 (by simp only [suA]; simp_all), rfl⟩
    · iterate 6 refine Wp.go rfl ?_
      refine Wp.call rfl cqX9_standsFor (sX9_standsFor (σ := σ) hT hO rfl (by first | omega | exact Nat.lt_trans (kA_lt hc _) (by decide) | exact Nat.lt_trans (tpA_lt hc _) (by decide)) (nE_add (rfl : _ = nI 100) hA.1) (by first | omega | exact Nat.lt_trans (kA_lt hc _) (by decide) | exact Nat.lt_trans (tpA_lt hc _) (by decide))) (fun rv24 s24 hq24 => ?_)
      obtain ⟨rfl, hq24⟩ := hq24
      replace hq24 := hq24.symm
      subst hq24
      refine Wp.go rfl ?_
      refine Wp.beqE rfl (fun (h9 : (gfA T (tpA c 0) (100 + q)) = false) => ?_) (fun (h9 : (gfA T (tpA c 0) (100 + q)) = true) => ?_)
      · refine Wp.go rfl ?_
        refine Wp.ret rfl ?_
        exact ⟨rv0 (by simp only [suA]; simp_all), rfl⟩
      · iterate 2 refine Wp.go rfl ?_
        refine Wp.ret rfl ?_
        exact ⟨rv1 (by simp only [suA]; simp_all), rfl⟩
  · refine Wp.swI 13 rfl (by omega) (by omega) (by omega) ?_
    iterate 3 refine Wp.go rfl ?_
    refine Wp.neN (a := tpA c 0) (b := 1) rfl (rfl : _ = nI 1) (by first | omega | exact Nat.lt_trans (kA_lt hc _) (by decide) | exact Nat.lt_trans (tpA_lt hc _) (by decide)) (by first | omega | exact Nat.lt_trans (kA_lt hc _) (by decide) | exact Nat.lt_trans (tpA_lt hc _) (by decide)) (fun (h10 : ¬ tpA c 0 = 1) => ?_) (fun (h10 : tpA c 0 = 1) => ?_)
    · refine Wp.go rfl ?_
      refine Wp.ret rfl ?_
      exact ⟨rv0 (by simp only [suA]; simp_all), rfl⟩
    · iterate 2 refine Wp.go rfl ?_
      refine Wp.ret rfl ?_
      exact ⟨rv1 (by simp only [suA]; simp_all), rfl⟩
  · refine Wp.swI 14 rfl (by omega) (by omega) (by omega) ?_
    iterate 3 refine Wp.go rfl ?_
    refine Wp.call rfl cqX9_isReference (sX9_isReference (σ := σ) hT hO rfl (by first | omega | exact Nat.lt_trans (kA_lt hc _) (by decide) | exact Nat.lt_trans (tpA_lt hc _) (by decide))) (fun rv25 s25 hq25 => ?_)
    obtain ⟨rfl, hq25⟩ := hq25
    replace hq25 := hq25.symm
    subst hq25
    refine Wp.go rfl ?_
    refine Wp.beqE rfl (fun (h11 : (rfK T (tpA c 1)) = false) => ?_) (fun (h11 : (rfK T (tpA c 1)) = true) => ?_)
    · refine Wp.go rfl ?_
      refine Wp.ret rfl ?_
      exact ⟨rv0 (by simp only [suA]; simp_all), rfl⟩
    · iterate 3 refine Wp.go rfl ?_
      refine Wp.call rfl cqX9_isReference (sX9_isReference (σ := σ) hT hO rfl (by first | omega | exact Nat.lt_trans (kA_lt hc _) (by decide) | exact Nat.lt_trans (tpA_lt hc _) (by decide))) (fun rv26 s26 hq26 => ?_)
      obtain ⟨rfl, hq26⟩ := hq26
      replace hq26 := hq26.symm
      subst hq26
      refine Wp.go rfl ?_
      refine Wp.beqE rfl (fun (h12 : (rfK T (tpA c 0)) = false) => ?_) (fun (h12 : (rfK T (tpA c 0)) = true) => ?_)
      · refine Wp.go rfl ?_
        refine Wp.ret rfl ?_
        exact ⟨rv0 (by simp only [suA]; simp_all), rfl⟩
      · iterate 2 refine Wp.go rfl ?_
        refine Wp.ret rfl ?_
        exact ⟨rv1 (by simp only [suA]; simp_all), rfl⟩
  · refine Wp.swI 15 rfl (by omega) (by omega) (by omega) ?_
    refine Wp.go rfl ?_
    refine Wp.ret rfl ?_
    exact ⟨rv1 (by simp only [suA]; simp_all), rfl⟩
  · refine Wp.swI 16 rfl (by omega) (by omega) (by omega) ?_
    refine Wp.go rfl ?_
    refine Wp.ret rfl ?_
    exact ⟨rv1 (by simp only [suA]; simp_all), rfl⟩
  · refine Wp.swI 17 rfl (by omega) (by omega) (by omega) ?_
    iterate 3 refine Wp.go rfl ?_
    refine Wp.call rfl cqX9_isReference (sX9_isReference (σ := σ) hT hO rfl (by first | omega | exact Nat.lt_trans (kA_lt hc _) (by decide) | exact Nat.lt_trans (tpA_lt hc _) (by decide))) (fun rv27 s27 hq27 => ?_)
    obtain ⟨rfl, hq27⟩ := hq27
    replace hq27 := hq27.symm
    subst hq27
    refine Wp.ret (if_pos (Or.inr (bE_01 rfl))) ?_
    exact ⟨rvB rfl (by simp only [suA]; simp_all), rfl⟩
  · refine Wp.swO rfl (by omega) (by omega) ?_
    refine Wp.go rfl ?_
    refine Wp.ret rfl ?_
    exact ⟨rv1 (by first | (exfalso; omega) | (unfold suA; repeat rw [if_neg (by omega)])), rfl⟩
set_option maxRecDepth 100000 in
set_option maxHeartbeats 2000000 in
theorem sX5_work {P : pT} {T : tT} {a : Nat} {c : cS} {σ : mc_G} (hP : cCode P σ) (hO1 : pn P ≤ 30 ∧ qn P ≤ 4) (hp20 : ∀ k, k < pn P → po P k ≤ 20) (hT : cTyp T σ) (hO : tOk T) (hC : isC a) (hc : cCel a c σ) {x : Int32} {k q t : Nat} (hx : x = nI k) (hk : k < 30) (hqa : (opA P k = 3 ∨ opA P k = 4 ∨ opA P k = 5 ∨ opA P k = 6 ∨ opA P k = 14 ∨ opA P k = 15) → nuA P k = nI q ∧ q < 8) (hS : cSta σ) (h11 : 11 ≤ a) (hq7 : (opA P k = 4 ∨ opA P k = 6) → q < 7) (hta : opA P k = 13 → nuA P (tpA c 0 - 200) = nI t ∧ t < 8 ∧ 200 ≤ tpA c 0) : Wp miX5_work 0 [(0, .inr (some 16)), (1, .inr (some a)), (2, .inl x)] [] σ (fun rv σ' => rv = none ∧ cCel a (wkA (opA P k) q k t c) σ' ∧ offC a σ σ') := by
  have hop : opA P k ≤ 20 := by unfold opA; split; exact hp20 k ‹_›; decide
  have hh6 := hc.2.1
  have htk := tkA_le (opA P k)
  have ha187 := hC.2.2.2.2.1
  iterate 3 refine Wp.go rfl ?_
  refine Wp.call rfl cqX1_opAt (sX1_opAt (σ := σ) hP hO1 hx (by omega)) (fun rv1 s1 hq1 => ?_)
  obtain ⟨rfl, hq1⟩ := hq1
  replace hq1 := hq1.symm
  subst hq1
  iterate 4 refine Wp.go rfl ?_
  refine Wp.call rfl cqX1_numberAt (sX1_numberAt (σ := σ) hP hO1 hx (by omega)) (fun rv2 s2 hq2 => ?_)
  obtain ⟨rfl, hq2⟩ := hq2
  replace hq2 := hq2.symm
  subst hq2
  iterate 3 refine Wp.go rfl ?_
  refine Wp.call (if_pos ⟨(hC).1, (hC).2.1, Nat.le_of_ble_eq_true rfl, Nat.le_of_ble_eq_true rfl⟩) cqX0_fromTop (sX0_fromTop (σ := σ) (c := c) hC (hc) (rfl : _ = nI 0) (by omega)) (fun rv3 s3 hq3 => ?_)
  obtain ⟨rfl, hq3⟩ := hq3
  replace hq3 := hq3.symm
  subst hq3
  iterate 3 refine Wp.go rfl ?_
  refine Wp.call rfl cqX11_takes (sX11_takes (σ := σ) hS rfl (by omega)) (fun rv4 s4 hq4 => ?_)
  obtain ⟨rfl, hq4⟩ := hq4
  replace hq4 := hq4.symm
  subst hq4
  refine Wp.call (if_pos ⟨(hC).1, (hC).2.1, Nat.le_of_ble_eq_true rfl, Nat.le_of_ble_eq_true rfl⟩) cqX0_drop (sX0_drop (σ := σ) (c := c) hC (hc) rfl (by have := tkA_le (opA P k); omega)) (fun rv5 s5 hq5 => ?_)
  obtain ⟨rfl, hc5, ho5⟩ := hq5
  have hP5 : cCode P s5 := hP.to (fun b hb1 hb2 => ho5 b (by omega) (by omega))
  have hT5 : cTyp T s5 := hT.to (fun b hb1 hb2 => ho5 b (by omega) (by omega))
  have hS5 : cSta s5 := fun o ho => by rw [ho5 1000 (by omega) (by omega), ho5 1001 (by omega) (by omega)]; exact hS o ho
  iterate 2 refine Wp.go rfl ?_
  rcases (show opA P k = 0 ∨ opA P k = 1 ∨ opA P k = 2 ∨ opA P k = 3 ∨ opA P k = 4 ∨ opA P k = 5 ∨ opA P k = 6 ∨ opA P k = 7 ∨ opA P k = 8 ∨ opA P k = 9 ∨ opA P k = 10 ∨ opA P k = 11 ∨ opA P k = 12 ∨ opA P k = 13 ∨ opA P k = 14 ∨ 14 < opA P k by omega) with hs | hs | hs | hs | hs | hs | hs | hs | hs | hs | hs | hs | hs | hs | hs | hs
  · refine Wp.swI 0 rfl (by omega) (by omega) (by omega) ?_
    iterate 2 refine Wp.go rfl ?_
    refine Wp.call (if_pos ⟨(hC).1, (hC).2.1, Nat.le_of_ble_eq_true rfl, Nat.le_of_ble_eq_true rfl⟩) cqX0_push (sX0_push (σ := s5) (c := (drA c (tkA (opA P k)))) hC (hc5) (rfl : _ = nI 1) (by first | omega | exact tpA_lt hc _ | exact kA_lt hc _ | exact Nat.lt_trans (kA_lt hc _) (by decide) | exact Nat.lt_trans (tpA_lt hc _) (by decide) | exact kA_lt (by assumption) _)) (fun rv6 s6 hq6 => ?_)
    obtain ⟨rfl, hc6, ho6⟩ := hq6
    have hP6 : cCode P s6 := hP5.to (fun b hb1 hb2 => ho6 b (by omega) (by omega))
    have hT6 : cTyp T s6 := hT5.to (fun b hb1 hb2 => ho6 b (by omega) (by omega))
    have hS6 : cSta s6 := fun o ho => by rw [ho6 1000 (by omega) (by omega), ho6 1001 (by omega) (by omega)]; exact hS5 o ho
    refine Wp.go rfl ?_
    refine Wp.ret rfl ?_
    refine ⟨rfl, ?_, ((offC.rf).tr ho5).tr ho6⟩
    have hz := hc6
    first | (exfalso; omega) | skip
    have e1 : wkA (opA P k) q k t c = (psA (drA c (tkA (opA P k))) 1) := by unfold wkA; (repeat first | rw [if_pos (by omega)] | rw [if_neg (by omega)])
    rw [e1]; exact hz
  · refine Wp.swI 1 rfl (by omega) (by omega) (by omega) ?_
    refine Wp.go rfl ?_
    refine Wp.call (if_pos ⟨(hC).1, (hC).2.1, Nat.le_of_ble_eq_true rfl, Nat.le_of_ble_eq_true rfl⟩) cqX0_pushLong (sX0_pushLong (σ := s5) (c := (drA c (tkA (opA P k)))) hC (hc5) ) (fun rv7 s7 hq7 => ?_)
    obtain ⟨rfl, hc7, ho7⟩ := hq7
    have hP7 : cCode P s7 := hP5.to (fun b hb1 hb2 => ho7 b (by omega) (by omega))
    have hT7 : cTyp T s7 := hT5.to (fun b hb1 hb2 => ho7 b (by omega) (by omega))
    have hS7 : cSta s7 := fun o ho => by rw [ho7 1000 (by omega) (by omega), ho7 1001 (by omega) (by omega)]; exact hS5 o ho
    refine Wp.go rfl ?_
    refine Wp.ret rfl ?_
    refine ⟨rfl, ?_, ((offC.rf).tr ho5).tr ho7⟩
    have hz := hc7
    first | (exfalso; omega) | skip
    have e1 : wkA (opA P k) q k t c = (psA (psA (drA c (tkA (opA P k))) 2) 3) := by unfold wkA; (repeat first | rw [if_pos (by omega)] | rw [if_neg (by omega)])
    rw [e1]; exact hz
  · refine Wp.swI 2 rfl (by omega) (by omega) (by omega) ?_
    iterate 2 refine Wp.go rfl ?_
    refine Wp.call (if_pos ⟨(hC).1, (hC).2.1, Nat.le_of_ble_eq_true rfl, Nat.le_of_ble_eq_true rfl⟩) cqX0_push (sX0_push (σ := s5) (c := (drA c (tkA (opA P k)))) hC (hc5) (rfl : _ = nI 4) (by first | omega | exact tpA_lt hc _ | exact kA_lt hc _ | exact Nat.lt_trans (kA_lt hc _) (by decide) | exact Nat.lt_trans (tpA_lt hc _) (by decide) | exact kA_lt (by assumption) _)) (fun rv8 s8 hq8 => ?_)
    obtain ⟨rfl, hc8, ho8⟩ := hq8
    have hP8 : cCode P s8 := hP5.to (fun b hb1 hb2 => ho8 b (by omega) (by omega))
    have hT8 : cTyp T s8 := hT5.to (fun b hb1 hb2 => ho8 b (by omega) (by omega))
    have hS8 : cSta s8 := fun o ho => by rw [ho8 1000 (by omega) (by omega), ho8 1001 (by omega) (by omega)]; exact hS5 o ho
    refine Wp.go rfl ?_
    refine Wp.ret rfl ?_
    refine ⟨rfl, ?_, ((offC.rf).tr ho5).tr ho8⟩
    have hz := hc8
    first | (exfalso; omega) | skip
    have e1 : wkA (opA P k) q k t c = (psA (drA c (tkA (opA P k))) 4) := by unfold wkA; (repeat first | rw [if_pos (by omega)] | rw [if_neg (by omega)])
    rw [e1]; exact hz
  · refine Wp.swI 3 rfl (by omega) (by omega) (by omega) ?_
    have hA := hqa (by omega)
    have hA8 := hA.2
    iterate 3 refine Wp.go rfl ?_
    refine Wp.call (if_pos ⟨(hC).1, (hC).2.1, Nat.le_of_ble_eq_true rfl, Nat.le_of_ble_eq_true rfl⟩) cqX0_kindAt (sX0_kindAt (σ := s5) (c := (drA c (tkA (opA P k)))) hC (hc5) hA.1 (by omega)) (fun rv9 s9 hq9 => ?_)
    obtain ⟨rfl, hq9⟩ := hq9
    replace hq9 := hq9.symm
    subst hq9
    refine Wp.call (if_pos ⟨(hC).1, (hC).2.1, Nat.le_of_ble_eq_true rfl, Nat.le_of_ble_eq_true rfl⟩) cqX0_push (sX0_push (σ := s5) (c := (drA c (tkA (opA P k)))) hC (hc5) rfl (by first | omega | exact tpA_lt hc _ | exact kA_lt hc _ | exact Nat.lt_trans (kA_lt hc _) (by decide) | exact Nat.lt_trans (tpA_lt hc _) (by decide) | exact kA_lt (by assumption) _)) (fun rv10 s10 hq10 => ?_)
    obtain ⟨rfl, hc10, ho10⟩ := hq10
    have hP10 : cCode P s10 := hP5.to (fun b hb1 hb2 => ho10 b (by omega) (by omega))
    have hT10 : cTyp T s10 := hT5.to (fun b hb1 hb2 => ho10 b (by omega) (by omega))
    have hS10 : cSta s10 := fun o ho => by rw [ho10 1000 (by omega) (by omega), ho10 1001 (by omega) (by omega)]; exact hS5 o ho
    refine Wp.go rfl ?_
    refine Wp.ret rfl ?_
    refine ⟨rfl, ?_, ((offC.rf).tr ho5).tr ho10⟩
    have hz := hc10
    first | (exfalso; omega) | skip
    have e1 : wkA (opA P k) q k t c = (psA (drA c (tkA (opA P k))) (kA (drA c (tkA (opA P k))) q)) := by unfold wkA; (repeat first | rw [if_pos (by omega)] | rw [if_neg (by omega)])
    rw [e1]; exact hz
  · refine Wp.swI 4 rfl (by omega) (by omega) (by omega) ?_
    have hA := hqa (by omega)
    have hA8 := hA.2
    have hA7 := hq7 (by omega)
    refine Wp.go rfl ?_
    refine Wp.call (if_pos ⟨(hC).1, (hC).2.1, Nat.le_of_ble_eq_true rfl, Nat.le_of_ble_eq_true rfl⟩) cqX0_pushLong (sX0_pushLong (σ := s5) (c := (drA c (tkA (opA P k)))) hC (hc5) ) (fun rv11 s11 hq11 => ?_)
    obtain ⟨rfl, hc11, ho11⟩ := hq11
    have hP11 : cCode P s11 := hP5.to (fun b hb1 hb2 => ho11 b (by omega) (by omega))
    have hT11 : cTyp T s11 := hT5.to (fun b hb1 hb2 => ho11 b (by omega) (by omega))
    have hS11 : cSta s11 := fun o ho => by rw [ho11 1000 (by omega) (by omega), ho11 1001 (by omega) (by omega)]; exact hS5 o ho
    refine Wp.go rfl ?_
    refine Wp.ret rfl ?_
    refine ⟨rfl, ?_, ((offC.rf).tr ho5).tr ho11⟩
    have hz := hc11
    first | (exfalso; omega) | skip
    have e1 : wkA (opA P k) q k t c = (psA (psA (drA c (tkA (opA P k))) 2) 3) := by unfold wkA; (repeat first | rw [if_pos (by omega)] | rw [if_neg (by omega)])
    rw [e1]; exact hz
  · refine Wp.swI 5 rfl (by omega) (by omega) (by omega) ?_
    have hA := hqa (by omega)
    have hA8 := hA.2
    iterate 3 refine Wp.go rfl ?_
    refine Wp.call (if_pos ⟨(hC).1, (hC).2.1, Nat.le_of_ble_eq_true rfl, Nat.le_of_ble_eq_true rfl⟩) cqX0_store (sX0_store (σ := s5) (c := (drA c (tkA (opA P k)))) hC (hc5) hA.1 (by omega) rfl (by first | omega | exact tpA_lt hc _ | exact kA_lt hc _ | exact Nat.lt_trans (kA_lt hc _) (by decide) | exact Nat.lt_trans (tpA_lt hc _) (by decide) | exact kA_lt (by assumption) _)) (fun rv12 s12 hq12 => ?_)
    obtain ⟨rfl, hc12, ho12⟩ := hq12
    have hP12 : cCode P s12 := hP5.to (fun b hb1 hb2 => ho12 b (by omega) (by omega))
    have hT12 : cTyp T s12 := hT5.to (fun b hb1 hb2 => ho12 b (by omega) (by omega))
    have hS12 : cSta s12 := fun o ho => by rw [ho12 1000 (by omega) (by omega), ho12 1001 (by omega) (by omega)]; exact hS5 o ho
    refine Wp.go rfl ?_
    refine Wp.ret rfl ?_
    refine ⟨rfl, ?_, ((offC.rf).tr ho5).tr ho12⟩
    have hz := hc12
    first | (exfalso; omega) | skip
    have e1 : wkA (opA P k) q k t c = (soA (drA c (tkA (opA P k))) q (tpA c 0)) := by unfold wkA; (repeat first | rw [if_pos (by omega)] | rw [if_neg (by omega)])
    rw [e1]; exact hz
  · refine Wp.swI 6 rfl (by omega) (by omega) (by omega) ?_
    have hA := hqa (by omega)
    have hA8 := hA.2
    have hA7 := hq7 (by omega)
    iterate 2 refine Wp.go rfl ?_
    refine Wp.call (if_pos ⟨(hC).1, (hC).2.1, Nat.le_of_ble_eq_true rfl, Nat.le_of_ble_eq_true rfl⟩) cqX0_storeLong (sX0_storeLong (σ := s5) (c := (drA c (tkA (opA P k)))) hC (hc5) hA.1 (by omega)) (fun rv13 s13 hq13 => ?_)
    obtain ⟨rfl, hc13, ho13⟩ := hq13
    have hP13 : cCode P s13 := hP5.to (fun b hb1 hb2 => ho13 b (by omega) (by omega))
    have hT13 : cTyp T s13 := hT5.to (fun b hb1 hb2 => ho13 b (by omega) (by omega))
    have hS13 : cSta s13 := fun o ho => by rw [ho13 1000 (by omega) (by omega), ho13 1001 (by omega) (by omega)]; exact hS5 o ho
    refine Wp.go rfl ?_
    refine Wp.ret rfl ?_
    refine ⟨rfl, ?_, ((offC.rf).tr ho5).tr ho13⟩
    have hz := hc13
    first | (exfalso; omega) | skip
    have e1 : wkA (opA P k) q k t c = (slA (drA c (tkA (opA P k))) q) := by unfold wkA; (repeat first | rw [if_pos (by omega)] | rw [if_neg (by omega)])
    rw [e1]; exact hz
  · refine Wp.swI 7 rfl (by omega) (by omega) (by omega) ?_
    refine Wp.ret rfl ?_
    refine ⟨rfl, ?_, (offC.rf).tr ho5⟩
    have hz := hc5
    first | (exfalso; omega) | skip
    have e1 : wkA (opA P k) q k t c = (drA c (tkA (opA P k))) := by unfold wkA; (repeat first | rw [if_pos (by omega)] | rw [if_neg (by omega)])
    rw [e1]; exact hz
  · refine Wp.swI 8 rfl (by omega) (by omega) (by omega) ?_
    refine Wp.ret rfl ?_
    refine ⟨rfl, ?_, (offC.rf).tr ho5⟩
    have hz := hc5
    first | (exfalso; omega) | skip
    have e1 : wkA (opA P k) q k t c = (drA c (tkA (opA P k))) := by unfold wkA; (repeat first | rw [if_pos (by omega)] | rw [if_neg (by omega)])
    rw [e1]; exact hz
  · refine Wp.swI 9 rfl (by omega) (by omega) (by omega) ?_
    iterate 2 refine Wp.go rfl ?_
    refine Wp.call (if_pos ⟨(hC).1, (hC).2.1, Nat.le_of_ble_eq_true rfl, Nat.le_of_ble_eq_true rfl⟩) cqX0_push (sX0_push (σ := s5) (c := (drA c (tkA (opA P k)))) hC (hc5) rfl (by first | omega | exact tpA_lt hc _ | exact kA_lt hc _ | exact Nat.lt_trans (kA_lt hc _) (by decide) | exact Nat.lt_trans (tpA_lt hc _) (by decide) | exact kA_lt (by assumption) _)) (fun rv14 s14 hq14 => ?_)
    obtain ⟨rfl, hc14, ho14⟩ := hq14
    have hP14 : cCode P s14 := hP5.to (fun b hb1 hb2 => ho14 b (by omega) (by omega))
    have hT14 : cTyp T s14 := hT5.to (fun b hb1 hb2 => ho14 b (by omega) (by omega))
    have hS14 : cSta s14 := fun o ho => by rw [ho14 1000 (by omega) (by omega), ho14 1001 (by omega) (by omega)]; exact hS5 o ho
    iterate 2 refine Wp.go rfl ?_
    refine Wp.call (if_pos ⟨(hC).1, (hC).2.1, Nat.le_of_ble_eq_true rfl, Nat.le_of_ble_eq_true rfl⟩) cqX0_push (sX0_push (σ := s14) (c := (psA (drA c (tkA (opA P k))) (tpA c 0))) hC (hc14) rfl (by first | omega | exact tpA_lt hc _ | exact kA_lt hc _ | exact Nat.lt_trans (kA_lt hc _) (by decide) | exact Nat.lt_trans (tpA_lt hc _) (by decide) | exact kA_lt (by assumption) _)) (fun rv15 s15 hq15 => ?_)
    obtain ⟨rfl, hc15, ho15⟩ := hq15
    have hP15 : cCode P s15 := hP14.to (fun b hb1 hb2 => ho15 b (by omega) (by omega))
    have hT15 : cTyp T s15 := hT14.to (fun b hb1 hb2 => ho15 b (by omega) (by omega))
    have hS15 : cSta s15 := fun o ho => by rw [ho15 1000 (by omega) (by omega), ho15 1001 (by omega) (by omega)]; exact hS14 o ho
    refine Wp.go rfl ?_
    refine Wp.ret rfl ?_
    refine ⟨rfl, ?_, (((offC.rf).tr ho5).tr ho14).tr ho15⟩
    have hz := hc15
    first | (exfalso; omega) | skip
    have e1 : wkA (opA P k) q k t c = (psA (psA (drA c (tkA (opA P k))) (tpA c 0)) (tpA c 0)) := by unfold wkA; (repeat first | rw [if_pos (by omega)] | rw [if_neg (by omega)])
    rw [e1]; exact hz
  · refine Wp.swI 10 rfl (by omega) (by omega) (by omega) ?_
    iterate 2 refine Wp.go rfl ?_
    refine Wp.call (if_pos ⟨(hC).1, (hC).2.1, Nat.le_of_ble_eq_true rfl, Nat.le_of_ble_eq_true rfl⟩) cqX0_push (sX0_push (σ := s5) (c := (drA c (tkA (opA P k)))) hC (hc5) (rfl : _ = nI 1) (by first | omega | exact tpA_lt hc _ | exact kA_lt hc _ | exact Nat.lt_trans (kA_lt hc _) (by decide) | exact Nat.lt_trans (tpA_lt hc _) (by decide) | exact kA_lt (by assumption) _)) (fun rv16 s16 hq16 => ?_)
    obtain ⟨rfl, hc16, ho16⟩ := hq16
    have hP16 : cCode P s16 := hP5.to (fun b hb1 hb2 => ho16 b (by omega) (by omega))
    have hT16 : cTyp T s16 := hT5.to (fun b hb1 hb2 => ho16 b (by omega) (by omega))
    have hS16 : cSta s16 := fun o ho => by rw [ho16 1000 (by omega) (by omega), ho16 1001 (by omega) (by omega)]; exact hS5 o ho
    refine Wp.go rfl ?_
    refine Wp.ret rfl ?_
    refine ⟨rfl, ?_, ((offC.rf).tr ho5).tr ho16⟩
    have hz := hc16
    first | (exfalso; omega) | skip
    have e1 : wkA (opA P k) q k t c = (psA (drA c (tkA (opA P k))) 1) := by unfold wkA; (repeat first | rw [if_pos (by omega)] | rw [if_neg (by omega)])
    rw [e1]; exact hz
  · refine Wp.swI 11 rfl (by omega) (by omega) (by omega) ?_
    refine Wp.go rfl ?_
    refine Wp.call (if_pos ⟨(hC).1, (hC).2.1, Nat.le_of_ble_eq_true rfl, Nat.le_of_ble_eq_true rfl⟩) cqX0_pushLong (sX0_pushLong (σ := s5) (c := (drA c (tkA (opA P k)))) hC (hc5) ) (fun rv17 s17 hq17 => ?_)
    obtain ⟨rfl, hc17, ho17⟩ := hq17
    have hP17 : cCode P s17 := hP5.to (fun b hb1 hb2 => ho17 b (by omega) (by omega))
    have hT17 : cTyp T s17 := hT5.to (fun b hb1 hb2 => ho17 b (by omega) (by omega))
    have hS17 : cSta s17 := fun o ho => by rw [ho17 1000 (by omega) (by omega), ho17 1001 (by omega) (by omega)]; exact hS5 o ho
    refine Wp.go rfl ?_
    refine Wp.ret rfl ?_
    refine ⟨rfl, ?_, ((offC.rf).tr ho5).tr ho17⟩
    have hz := hc17
    first | (exfalso; omega) | skip
    have e1 : wkA (opA P k) q k t c = (psA (psA (drA c (tkA (opA P k))) 2) 3) := by unfold wkA; (repeat first | rw [if_pos (by omega)] | rw [if_neg (by omega)])
    rw [e1]; exact hz
  · refine Wp.swI 12 rfl (by omega) (by omega) (by omega) ?_
    iterate 5 refine Wp.go rfl ?_
    refine Wp.call (if_pos ⟨(hC).1, (hC).2.1, Nat.le_of_ble_eq_true rfl, Nat.le_of_ble_eq_true rfl⟩) cqX0_replaceAll (sX0_replaceAll (σ := s5) (c := (drA c (tkA (opA P k)))) hC (hc5) (nE_add (rfl : _ = nI 200) hx) (by first | omega | exact tpA_lt hc _ | exact kA_lt hc _ | exact Nat.lt_trans (kA_lt hc _) (by decide) | exact Nat.lt_trans (tpA_lt hc _) (by decide) | exact kA_lt (by assumption) _) (rfl : _ = nI 0) (by first | omega | exact tpA_lt hc _ | exact kA_lt hc _ | exact Nat.lt_trans (kA_lt hc _) (by decide) | exact Nat.lt_trans (tpA_lt hc _) (by decide) | exact kA_lt (by assumption) _)) (fun rv18 s18 hq18 => ?_)
    obtain ⟨rfl, hc18, ho18⟩ := hq18
    have hP18 : cCode P s18 := hP5.to (fun b hb1 hb2 => ho18 b (by omega) (by omega))
    have hT18 : cTyp T s18 := hT5.to (fun b hb1 hb2 => ho18 b (by omega) (by omega))
    have hS18 : cSta s18 := fun o ho => by rw [ho18 1000 (by omega) (by omega), ho18 1001 (by omega) (by omega)]; exact hS5 o ho
    iterate 4 refine Wp.go rfl ?_
    refine Wp.call (if_pos ⟨(hC).1, (hC).2.1, Nat.le_of_ble_eq_true rfl, Nat.le_of_ble_eq_true rfl⟩) cqX0_push (sX0_push (σ := s18) (c := (rpA (drA c (tkA (opA P k))) (200 + k) 0)) hC (hc18) (nE_add (rfl : _ = nI 200) hx) (by first | omega | exact tpA_lt hc _ | exact kA_lt hc _ | exact Nat.lt_trans (kA_lt hc _) (by decide) | exact Nat.lt_trans (tpA_lt hc _) (by decide) | exact kA_lt (by assumption) _)) (fun rv19 s19 hq19 => ?_)
    obtain ⟨rfl, hc19, ho19⟩ := hq19
    have hP19 : cCode P s19 := hP18.to (fun b hb1 hb2 => ho19 b (by omega) (by omega))
    have hT19 : cTyp T s19 := hT18.to (fun b hb1 hb2 => ho19 b (by omega) (by omega))
    have hS19 : cSta s19 := fun o ho => by rw [ho19 1000 (by omega) (by omega), ho19 1001 (by omega) (by omega)]; exact hS18 o ho
    refine Wp.go rfl ?_
    refine Wp.ret rfl ?_
    refine ⟨rfl, ?_, (((offC.rf).tr ho5).tr ho18).tr ho19⟩
    have hz := hc19
    first | (exfalso; omega) | skip
    have e1 : wkA (opA P k) q k t c = (psA (rpA (drA c (tkA (opA P k))) (200 + k) 0) (200 + k)) := by unfold wkA; (repeat first | rw [if_pos (by omega)] | rw [if_neg (by omega)])
    rw [e1]; exact hz
  · refine Wp.swI 13 rfl (by omega) (by omega) (by omega) ?_
    have hB := hta (by omega)
    have hB8 := hB.2.1
    have hB2 := hB.2.2
    have hB3 := tpA_lt hc 0
    iterate 8 refine Wp.go rfl ?_
    refine Wp.call rfl cqX1_numberAt (sX1_numberAt (σ := s5) hP5 hO1 (nE_sub rfl (rfl : _ = nI 200) (hta (by omega)).2.2) (by omega)) (fun rv20 s20 hq20 => ?_)
    obtain ⟨rfl, hq20⟩ := hq20
    replace hq20 := hq20.symm
    subst hq20
    refine Wp.go rfl ?_
    refine Wp.call (if_pos ⟨(hC).1, (hC).2.1, Nat.le_of_ble_eq_true rfl, Nat.le_of_ble_eq_true rfl⟩) cqX0_replaceAll (sX0_replaceAll (σ := s5) (c := (drA c (tkA (opA P k)))) hC (hc5) rfl (by first | omega | exact tpA_lt hc _ | exact kA_lt hc _ | exact Nat.lt_trans (kA_lt hc _) (by decide) | exact Nat.lt_trans (tpA_lt hc _) (by decide) | exact kA_lt (by assumption) _) (nE_add (rfl : _ = nI 100) (hta (by omega)).1) (by first | omega | exact tpA_lt hc _ | exact kA_lt hc _ | exact Nat.lt_trans (kA_lt hc _) (by decide) | exact Nat.lt_trans (tpA_lt hc _) (by decide) | exact kA_lt (by assumption) _)) (fun rv21 s21 hq21 => ?_)
    obtain ⟨rfl, hc21, ho21⟩ := hq21
    have hP21 : cCode P s21 := hP5.to (fun b hb1 hb2 => ho21 b (by omega) (by omega))
    have hT21 : cTyp T s21 := hT5.to (fun b hb1 hb2 => ho21 b (by omega) (by omega))
    have hS21 : cSta s21 := fun o ho => by rw [ho21 1000 (by omega) (by omega), ho21 1001 (by omega) (by omega)]; exact hS5 o ho
    refine Wp.go rfl ?_
    refine Wp.ret rfl ?_
    refine ⟨rfl, ?_, ((offC.rf).tr ho5).tr ho21⟩
    have hz := hc21
    first | (exfalso; omega) | skip
    have e1 : wkA (opA P k) q k t c = (rpA (drA c (tkA (opA P k))) (tpA c 0) (100 + t)) := by unfold wkA; (repeat first | rw [if_pos (by omega)] | rw [if_neg (by omega)])
    rw [e1]; exact hz
  · refine Wp.swI 14 rfl (by omega) (by omega) (by omega) ?_
    have hA := hqa (by omega)
    have hA8 := hA.2
    iterate 4 refine Wp.go rfl ?_
    refine Wp.call (if_pos ⟨(hC).1, (hC).2.1, Nat.le_of_ble_eq_true rfl, Nat.le_of_ble_eq_true rfl⟩) cqX0_push (sX0_push (σ := s5) (c := (drA c (tkA (opA P k)))) hC (hc5) (nE_add (rfl : _ = nI 100) hA.1) (by first | omega | exact tpA_lt hc _ | exact kA_lt hc _ | exact Nat.lt_trans (kA_lt hc _) (by decide) | exact Nat.lt_trans (tpA_lt hc _) (by decide) | exact kA_lt (by assumption) _)) (fun rv22 s22 hq22 => ?_)
    obtain ⟨rfl, hc22, ho22⟩ := hq22
    have hP22 : cCode P s22 := hP5.to (fun b hb1 hb2 => ho22 b (by omega) (by omega))
    have hT22 : cTyp T s22 := hT5.to (fun b hb1 hb2 => ho22 b (by omega) (by omega))
    have hS22 : cSta s22 := fun o ho => by rw [ho22 1000 (by omega) (by omega), ho22 1001 (by omega) (by omega)]; exact hS5 o ho
    refine Wp.go rfl ?_
    refine Wp.ret rfl ?_
    refine ⟨rfl, ?_, ((offC.rf).tr ho5).tr ho22⟩
    have hz := hc22
    first | (exfalso; omega) | skip
    have e1 : wkA (opA P k) q k t c = (psA (drA c (tkA (opA P k))) (100 + q)) := by unfold wkA; (repeat first | rw [if_pos (by omega)] | rw [if_neg (by omega)])
    rw [e1]; exact hz
  · refine Wp.swO rfl (by omega) (by omega) ?_
    refine Wp.ret rfl ?_
    refine ⟨rfl, ?_, (offC.rf).tr ho5⟩
    have hz := hc5
    first | (exfalso; omega) | skip
    have e1 : wkA (opA P k) q k t c = (drA c (tkA (opA P k))) := by unfold wkA; (repeat first | rw [if_pos (by omega)] | rw [if_neg (by omega)])
    rw [e1]; exact hz
def paA (T : tT) (o q k t : Nat) (c : cS) : cS := if suA T o q c = true then wkA o q k t c else (c.1 - tkA o + gvA o, fun _ => 0)
set_option maxRecDepth 100000 in
theorem sX5_pass {P : pT} {T : tT} {a : Nat} {c : cS} {σ : mc_G} (hP : cCode P σ) (hO1 : pn P ≤ 30 ∧ qn P ≤ 4) (hp20 : ∀ k, k < pn P → po P k ≤ 20) (hT : cTyp T σ) (hO : tOk T) (hC : isC a) (hc : cCel a c σ) {x : Int32} {k q t : Nat} (hx : x = nI k) (hk : k < 30) (hqa : (opA P k = 3 ∨ opA P k = 4 ∨ opA P k = 5 ∨ opA P k = 6 ∨ opA P k = 14 ∨ opA P k = 15) → nuA P k = nI q ∧ q < 8) (hS : cSta σ) (h11 : 11 ≤ a) (hq7 : (opA P k = 4 ∨ opA P k = 6) → q < 7) (hta : opA P k = 13 → suA T (opA P k) q c = true → nuA P (tpA c 0 - 200) = nI t ∧ t < 8 ∧ 200 ≤ tpA c 0) (hs1 : tkA (opA P k) ≤ c.1) (hs2 : c.1 - tkA (opA P k) + gvA (opA P k) ≤ 6) : Wp miX5_pass 0 [(0, .inr (some 16)), (1, .inr (some a)), (2, .inl x)] [] σ (fun rv σ' => rv = none ∧ cCel a (paA T (opA P k) q k t c) σ' ∧ offC a σ σ') := by
  have hop : opA P k ≤ 20 := by unfold opA; split; exact hp20 k ‹_›; decide
  have hh6 := hc.2.1
  iterate 3 refine Wp.go rfl ?_
  refine Wp.call rfl cqX5_suits (sX5_suits (σ := σ) hP hO1 hp20 hT hO hC hc hx hk hqa) (fun rv1 s1 hq1 => ?_)
  obtain ⟨rfl, hq1⟩ := hq1
  replace hq1 := hq1.symm
  subst hq1
  refine Wp.go rfl ?_
  refine Wp.beqE rfl (fun (h1 : (suA T (opA P k) q c) = false) => ?_) (fun (h1 : (suA T (opA P k) q c) = true) => ?_)
  · iterate 3 refine Wp.go rfl ?_
    refine Wp.call rfl cqX1_opAt (sX1_opAt (σ := σ) hP hO1 hx (by omega)) (fun rv2 s2 hq2 => ?_)
    obtain ⟨rfl, hq2⟩ := hq2
    replace hq2 := hq2.symm
    subst hq2
    iterate 3 refine Wp.go rfl ?_
    refine Wp.call (if_pos ⟨(hC).1, (hC).2.1, Nat.le_of_ble_eq_true rfl, Nat.le_of_ble_eq_true rfl⟩) cqX0_height (sX0_height (σ := σ) (c := c) hC (hc)) (fun rv3 s3 hq3 => ?_)
    obtain ⟨rfl, hq3⟩ := hq3
    replace hq3 := hq3.symm
    subst hq3
    refine Wp.go rfl ?_
    refine Wp.call rfl cqX11_takes (sX11_takes (σ := σ) hS rfl (by omega)) (fun rv4 s4 hq4 => ?_)
    obtain ⟨rfl, hq4⟩ := hq4
    replace hq4 := hq4.symm
    subst hq4
    iterate 2 refine Wp.go rfl ?_
    refine Wp.call rfl cqX11_gives (sX11_gives (σ := σ) hS rfl (by omega)) (fun rv5 s5 hq5 => ?_)
    obtain ⟨rfl, hq5⟩ := hq5
    replace hq5 := hq5.symm
    subst hq5
    refine Wp.go rfl ?_
    refine Wp.call (if_pos ⟨(hC).1, (hC).2.1, Nat.le_of_ble_eq_true rfl, Nat.le_of_ble_eq_true rfl⟩) cqX0_becomeTops (sX0_becomeTops (σ := σ) (c := c) hC (hc) (nE_add (nE_sub rfl rfl (by omega)) rfl) (by omega)) (fun rv6 s6 hq6 => ?_)
    obtain ⟨rfl, hc6, ho6⟩ := hq6
    refine Wp.ret rfl ?_
    refine ⟨rfl, ?_, (offC.rf).tr ho6⟩
    have hz := hc6
    unfold paA
    rw [if_neg (by rw [h1]; decide)]
    exact hz
  · iterate 3 refine Wp.go rfl ?_
    refine Wp.call rfl cqX5_work (sX5_work (σ := σ) hP hO1 hp20 hT hO hC hc hx hk hqa hS h11 hq7 (fun z => hta z h1)) (fun rv7 s7 hq7 => ?_)
    obtain ⟨rfl, hc7, ho7⟩ := hq7
    refine Wp.go rfl ?_
    refine Wp.ret rfl ?_
    refine ⟨rfl, ?_, (offC.rf).tr ho7⟩
    have hz := hc7
    unfold paA
    rw [if_pos h1]
    exact hz

/-! the reference's hand -/
def mHd (c : cS) (σ : mc_G) : Prop := σ 167 20 = nI c.1 ∧ c.1 ≤ 6 ∧ arP 181 (8 + c.1) c.2 σ
theorem mHd.o {c : cS} {σ σ' : mc_G} {cs fs : List Nat} (h : mHd c σ) (o : mo cs fs σ σ') (h1 : ¬ 181 ∈ cs := by decide) (h2 : ¬ 20 ∈ fs := by decide) : mHd c σ' := ⟨by rw [o.2 20 h2]; exact h.1, h.2.1, h.2.2.o o h1 (by decide)⟩
theorem mHd.a {c : cS} {f : Nat → Nat} {σ σ' : mc_G} (h : mHd c σ) (k : arP 181 (8 + c.1) f σ') (o : mo [181] [] σ σ') : mHd (c.1, f) σ' := ⟨by rw [o.2 20 (by decide)]; exact h.1, h.2.1, k⟩
theorem mHd.h {c : cS} {q : Nat} {σ : mc_G} {v : Int32} (h : mHd c σ) (hv : v = nI q) (hq : q ≤ c.1) : mHd (q, c.2) (mc_up σ 167 20 v) := by
  have h6 := h.2.1
  refine ⟨by rw [upj, if_pos rfl]; exact hv, by show q ≤ 6; omega, fun j hj => ?_⟩
  rw [mc_upn _ _ _ (by decide)]
  exact h.2.2 j (by have : j < 8 + q := hj; omega)
set_option maxRecDepth 100000 in
theorem sX12_takes {σ : mc_G} {x : Int32} {p : Nat} (hx : x = nI p) (hp : p ≤ 20) : Wp miX12_takes 0 [(0, .inl x)] [] σ (fun rv σ' => rv = some (.inl (nI (tkA p))) ∧ σ' = σ) := by
  iterate 2 refine Wp.go rfl ?_
  by_cases hsw : 5 ≤ p ∧ p ≤ 20
  · have hsc : p = 5 ∨ p = 6 ∨ p = 7 ∨ p = 8 ∨ p = 9 ∨ p = 10 ∨ p = 11 ∨ p = 12 ∨ p = 13 ∨ p = 14 ∨ p = 15 ∨ p = 16 ∨ p = 17 ∨ p = 18 ∨ p = 19 ∨ p = 20 := by omega
    rcases hsc with hsv | hsv | hsv | hsv | hsv | hsv | hsv | hsv | hsv | hsv | hsv | hsv | hsv | hsv | hsv | hsv
    · refine Wp.swI 0 hx (by omega) (by omega) (by omega) ?_
      refine Wp.go rfl ?_
      refine Wp.ret rfl ?_
      subst hsv
      exact ⟨rfl, rfl⟩
    · refine Wp.swI 1 hx (by omega) (by omega) (by omega) ?_
      refine Wp.go rfl ?_
      refine Wp.ret rfl ?_
      subst hsv
      exact ⟨rfl, rfl⟩
    · refine Wp.swI 2 hx (by omega) (by omega) (by omega) ?_
      refine Wp.go rfl ?_
      refine Wp.ret rfl ?_
      subst hsv
      exact ⟨rfl, rfl⟩
    · refine Wp.swI 3 hx (by omega) (by omega) (by omega) ?_
      refine Wp.go rfl ?_
      refine Wp.ret rfl ?_
      subst hsv
      exact ⟨rfl, rfl⟩
    · refine Wp.swI 4 hx (by omega) (by omega) (by omega) ?_
      refine Wp.go rfl ?_
      refine Wp.ret rfl ?_
      subst hsv
      exact ⟨rfl, rfl⟩
    · refine Wp.swI 5 hx (by omega) (by omega) (by omega) ?_
      refine Wp.go rfl ?_
      refine Wp.ret rfl ?_
      subst hsv
      exact ⟨rfl, rfl⟩
    · refine Wp.swI 6 hx (by omega) (by omega) (by omega) ?_
      refine Wp.go rfl ?_
      refine Wp.ret rfl ?_
      subst hsv
      exact ⟨rfl, rfl⟩
    · refine Wp.swI 7 hx (by omega) (by omega) (by omega) ?_
      refine Wp.go rfl ?_
      refine Wp.ret rfl ?_
      subst hsv
      exact ⟨rfl, rfl⟩
    · refine Wp.swI 8 hx (by omega) (by omega) (by omega) ?_
      refine Wp.go rfl ?_
      refine Wp.ret rfl ?_
      subst hsv
      exact ⟨rfl, rfl⟩
    · refine Wp.swI 9 hx (by omega) (by omega) (by omega) ?_
      refine Wp.go rfl ?_
      refine Wp.ret rfl ?_
      subst hsv
      exact ⟨rfl, rfl⟩
    · refine Wp.swI 10 hx (by omega) (by omega) (by omega) ?_
      refine Wp.go rfl ?_
      refine Wp.ret rfl ?_
      subst hsv
      exact ⟨rfl, rfl⟩
    · refine Wp.swI 11 hx (by omega) (by omega) (by omega) ?_
      refine Wp.go rfl ?_
      refine Wp.ret rfl ?_
      subst hsv
      exact ⟨rfl, rfl⟩
    · refine Wp.swI 12 hx (by omega) (by omega) (by omega) ?_
      refine Wp.go rfl ?_
      refine Wp.ret rfl ?_
      subst hsv
      exact ⟨rfl, rfl⟩
    · refine Wp.swI 13 hx (by omega) (by omega) (by omega) ?_
      refine Wp.go rfl ?_
      refine Wp.ret rfl ?_
      subst hsv
      exact ⟨rfl, rfl⟩
    · refine Wp.swI 14 hx (by omega) (by omega) (by omega) ?_
      refine Wp.go rfl ?_
      refine Wp.ret rfl ?_
      subst hsv
      exact ⟨rfl, rfl⟩
    · refine Wp.swI 15 hx (by omega) (by omega) (by omega) ?_
      refine Wp.go rfl ?_
      refine Wp.ret rfl ?_
      subst hsv
      exact ⟨rfl, rfl⟩
  · refine Wp.swO hx (by omega) (by omega) ?_
    refine Wp.go rfl ?_
    refine Wp.ret rfl ?_
    have hc : p = 0 ∨ p = 1 ∨ p = 2 ∨ p = 3 ∨ p = 4 := by omega
    rcases hc with rfl | rfl | rfl | rfl | rfl <;> exact ⟨rfl, rfl⟩
set_option maxRecDepth 100000 in
theorem sX12_gives {σ : mc_G} {x : Int32} {p : Nat} (hx : x = nI p) (hp : p ≤ 20) : Wp miX12_gives 0 [(0, .inl x)] [] σ (fun rv σ' => rv = some (.inl (nI (gvA p))) ∧ σ' = σ) := by
  iterate 2 refine Wp.go rfl ?_
  by_cases hsw : 0 ≤ p ∧ p ≤ 14
  · have hsc : p = 0 ∨ p = 1 ∨ p = 2 ∨ p = 3 ∨ p = 4 ∨ p = 5 ∨ p = 6 ∨ p = 7 ∨ p = 8 ∨ p = 9 ∨ p = 10 ∨ p = 11 ∨ p = 12 ∨ p = 13 ∨ p = 14 := by omega
    rcases hsc with hsv | hsv | hsv | hsv | hsv | hsv | hsv | hsv | hsv | hsv | hsv | hsv | hsv | hsv | hsv
    · refine Wp.swI 0 hx (by omega) (by omega) (by omega) ?_
      refine Wp.go rfl ?_
      refine Wp.ret rfl ?_
      subst hsv
      exact ⟨rfl, rfl⟩
    · refine Wp.swI 1 hx (by omega) (by omega) (by omega) ?_
      refine Wp.go rfl ?_
      refine Wp.ret rfl ?_
      subst hsv
      exact ⟨rfl, rfl⟩
    · refine Wp.swI 2 hx (by omega) (by omega) (by omega) ?_
      refine Wp.go rfl ?_
      refine Wp.ret rfl ?_
      subst hsv
      exact ⟨rfl, rfl⟩
    · refine Wp.swI 3 hx (by omega) (by omega) (by omega) ?_
      refine Wp.go rfl ?_
      refine Wp.ret rfl ?_
      subst hsv
      exact ⟨rfl, rfl⟩
    · refine Wp.swI 4 hx (by omega) (by omega) (by omega) ?_
      refine Wp.go rfl ?_
      refine Wp.ret rfl ?_
      subst hsv
      exact ⟨rfl, rfl⟩
    · refine Wp.swI 5 hx (by omega) (by omega) (by omega) ?_
      refine Wp.go rfl ?_
      refine Wp.ret rfl ?_
      subst hsv
      exact ⟨rfl, rfl⟩
    · refine Wp.swI 6 hx (by omega) (by omega) (by omega) ?_
      refine Wp.go rfl ?_
      refine Wp.ret rfl ?_
      subst hsv
      exact ⟨rfl, rfl⟩
    · refine Wp.swI 7 hx (by omega) (by omega) (by omega) ?_
      refine Wp.go rfl ?_
      refine Wp.ret rfl ?_
      subst hsv
      exact ⟨rfl, rfl⟩
    · refine Wp.swI 8 hx (by omega) (by omega) (by omega) ?_
      refine Wp.go rfl ?_
      refine Wp.ret rfl ?_
      subst hsv
      exact ⟨rfl, rfl⟩
    · refine Wp.swI 9 hx (by omega) (by omega) (by omega) ?_
      refine Wp.go rfl ?_
      refine Wp.ret rfl ?_
      subst hsv
      exact ⟨rfl, rfl⟩
    · refine Wp.swI 10 hx (by omega) (by omega) (by omega) ?_
      refine Wp.go rfl ?_
      refine Wp.ret rfl ?_
      subst hsv
      exact ⟨rfl, rfl⟩
    · refine Wp.swI 11 hx (by omega) (by omega) (by omega) ?_
      refine Wp.go rfl ?_
      refine Wp.ret rfl ?_
      subst hsv
      exact ⟨rfl, rfl⟩
    · refine Wp.swI 12 hx (by omega) (by omega) (by omega) ?_
      refine Wp.go rfl ?_
      refine Wp.ret rfl ?_
      subst hsv
      exact ⟨rfl, rfl⟩
    · refine Wp.swI 13 hx (by omega) (by omega) (by omega) ?_
      refine Wp.go rfl ?_
      refine Wp.ret rfl ?_
      subst hsv
      exact ⟨rfl, rfl⟩
    · refine Wp.swI 14 hx (by omega) (by omega) (by omega) ?_
      refine Wp.go rfl ?_
      refine Wp.ret rfl ?_
      subst hsv
      exact ⟨rfl, rfl⟩
  · refine Wp.swO hx (by omega) (by omega) ?_
    refine Wp.go rfl ?_
    refine Wp.ret rfl ?_
    have hc : p = 15 ∨ p = 16 ∨ p = 17 ∨ p = 18 ∨ p = 19 ∨ p = 20 := by omega
    rcases hc with rfl | rfl | rfl | rfl | rfl | rfl <;> exact ⟨rfl, rfl⟩
set_option maxRecDepth 100000 in
theorem sX12_goesOn {σ : mc_G} {x : Int32} {p : Nat} (hx : x = nI p) (hp : p ≤ 20) : Wp miX12_goesOn 0 [(0, .inl x)] [] σ (fun rv σ' => rv = some (.inl (bI (decide (p < 18)))) ∧ σ' = σ) := by
  iterate 3 refine Wp.go rfl ?_
  refine Wp.geN (a := p) (b := 18) hx (rfl : _ = nI 18) (by omega) (by omega) (fun (h1 : ¬ p < 18) => ?_) (fun (h1 : p < 18) => ?_)
  · refine Wp.go rfl ?_
    refine Wp.ret rfl ?_
    exact ⟨rv0 (by simp; omega), rfl⟩
  · iterate 2 refine Wp.go rfl ?_
    refine Wp.ret rfl ?_
    exact ⟨rv1 (by simp; omega), rfl⟩
set_option maxRecDepth 100000 in
theorem sX12_leads {σ : mc_G} {x : Int32} {p : Nat} (hx : x = nI p) (hp : p ≤ 20) : Wp miX12_leads 0 [(0, .inl x)] [] σ (fun rv σ' => rv = some (.inl (bI (decide (16 ≤ p) && decide (p ≤ 18)))) ∧ σ' = σ) := by
  iterate 3 refine Wp.go rfl ?_
  refine Wp.call rfl cqX12_isIn (sX12_isIn_n hx (by omega) (rfl : _ = nI 16) (by omega) (rfl : _ = nI 18) (by omega)) (fun rv1 s1 hq1 => ?_)
  obtain ⟨rfl, hq1⟩ := hq1
  replace hq1 := hq1.symm
  subst hq1
  refine Wp.retB (b := decide (16 ≤ p ∧ p ≤ 18)) rfl rfl rfl ?_
  exact ⟨rvB rfl (by simp), rfl⟩
set_option maxRecDepth 100000 in
theorem sX12_fitsHigh {σ : mc_G} {x y : Int32} {p s : Nat} (hx : x = nI p) (hp : p ≤ 20) (hy : y = nI s) (hs : s ≤ 6) : Wp miX12_fitsHigh 0 [(0, .inl x), (1, .inl y)] [] σ (fun rv σ' => rv = some (.inl (bI (fiA p s))) ∧ σ' = σ) := by
  have h1 := tkA_le p
  have h2 := gvA_le p
  iterate 2 refine Wp.go rfl ?_
  refine Wp.call rfl cqX12_takes (sX12_takes hx (by omega)) (fun rv1 s1 hq1 => ?_)
  obtain ⟨rfl, hq1⟩ := hq1
  replace hq1 := hq1.symm
  subst hq1
  refine Wp.go rfl ?_
  refine Wp.ltN (a := s) (b := tkA p) hy rfl (by omega) (by omega) (fun (h1 : s < tkA p) => ?_) (fun (h1 : ¬ s < tkA p) => ?_)
  · refine Wp.go rfl ?_
    refine Wp.ret rfl ?_
    exact ⟨rv0 (by simp [fiA]; omega), rfl⟩
  · iterate 2 refine Wp.go rfl ?_
    refine Wp.call rfl cqX12_takes (sX12_takes hx (by omega)) (fun rv2 s2 hq2 => ?_)
    obtain ⟨rfl, hq2⟩ := hq2
    replace hq2 := hq2.symm
    subst hq2
    iterate 2 refine Wp.go rfl ?_
    refine Wp.call rfl cqX12_gives (sX12_gives hx (by omega)) (fun rv3 s3 hq3 => ?_)
    obtain ⟨rfl, hq3⟩ := hq3
    replace hq3 := hq3.symm
    subst hq3
    iterate 3 refine Wp.go rfl ?_
    refine Wp.gtN (a := (s - (tkA p)) + (gvA p)) (b := 6) (nE_add (nE_sub hy rfl (by omega)) rfl) (rfl : _ = nI 6) (by omega) (by omega) (fun (h2 : 6 < (s - (tkA p)) + (gvA p)) => ?_) (fun (h2 : ¬ 6 < (s - (tkA p)) + (gvA p)) => ?_)
    · refine Wp.go rfl ?_
      refine Wp.ret rfl ?_
      exact ⟨rv0 (by simp [fiA]; omega), rfl⟩
    · iterate 2 refine Wp.go rfl ?_
      refine Wp.ret rfl ?_
      exact ⟨rv1 (by simp [fiA]; omega), rfl⟩
set_option maxRecDepth 100000 in
theorem sX12_top {c : cS} {σ : mc_G} (hC : mHd c σ) {x : Int32} {d : Nat} (hx : x = nI d) (hd : d < c.1) : Wp miX12_top 0 [(0, .inr (some 167)), (1, .inl x)] [] σ (fun rv σ' => rv = some (.inl (nI (tpA c d))) ∧ σ' = σ) := by
  have h6 := hC.2.1
  iterate 10 refine Wp.go rfl ?_
  refine Wp.go (if_pos ⟨rfl, rfl, (inE (n := 14) (nE_sub (nE_sub (nE_add (rfl : _ = nI 8) (hC).1) (rfl : _ = nI 1) (by omega)) hx (by omega)) (by omega))⟩) ?_
  refine Wp.ret rfl ?_
  exact ⟨rvN (rdE (nE_sub (nE_sub (nE_add (rfl : _ = nI 8) (hC).1) (rfl : _ = nI 1) (by omega)) hx (by omega)) (by omega) ((hC).2.2 (((8 + c.1) - 1) - d) (by omega)).1) (by rw [tp_c hd, show 7 + c.1 - d = 8 + c.1 - 1 - d by omega]), rfl⟩
theorem mtp_lt {c : cS} {σ : mc_G} (h : mHd c σ) (d : Nat) : tpA c d < 300 := by
  unfold tpA; split
  · exact (h.2.2 _ (by omega)).2
  · omega
set_option maxRecDepth 100000 in
theorem sX12_isLongOnTop {c : cS} {σ : mc_G} (hC : mHd c σ) {x : Int32} {d : Nat} (hx : x = nI d) (hd : d + 1 < c.1) : Wp miX12_isLongOnTop 0 [(0, .inr (some 167)), (1, .inl x)] [] σ (fun rv σ' => rv = some (.inl (bI (loK (tpA c (d + 1)) (tpA c d)))) ∧ σ' = σ) := by
  have h6 := hC.2.1
  have h1 := mtp_lt hC d
  have h2 := mtp_lt hC (d + 1)
  iterate 4 refine Wp.go rfl ?_
  refine Wp.call rfl cqX12_top (sX12_top (hC) (nE_add hx (rfl : _ = nI 1)) (by omega)) (fun rv1 s1 hq1 => ?_)
  obtain ⟨rfl, hq1⟩ := hq1
  replace hq1 := hq1.symm
  subst hq1
  iterate 2 refine Wp.go rfl ?_
  refine Wp.neN (a := tpA c (d + 1)) (b := 2) rfl (rfl : _ = nI 2) (by omega) (by omega) (fun (h1 : ¬ tpA c (d + 1) = 2) => ?_) (fun (h1 : tpA c (d + 1) = 2) => ?_)
  · refine Wp.go rfl ?_
    refine Wp.ret rfl ?_
    exact ⟨rv0 (by simp [loK, *]), rfl⟩
  · iterate 2 refine Wp.go rfl ?_
    refine Wp.call rfl cqX12_top (sX12_top (hC) hx (by omega)) (fun rv2 s2 hq2 => ?_)
    obtain ⟨rfl, hq2⟩ := hq2
    replace hq2 := hq2.symm
    subst hq2
    iterate 2 refine Wp.go rfl ?_
    refine Wp.neN (a := tpA c d) (b := 3) rfl (rfl : _ = nI 3) (by omega) (by omega) (fun (h2 : ¬ tpA c d = 3) => ?_) (fun (h2 : tpA c d = 3) => ?_)
    · refine Wp.go rfl ?_
      refine Wp.ret rfl ?_
      exact ⟨rv0 (by simp [loK, *]), rfl⟩
    · iterate 2 refine Wp.go rfl ?_
      refine Wp.ret rfl ?_
      exact ⟨rv1 (by simp [loK, *]), rfl⟩
set_option maxRecDepth 100000 in
theorem sX12_isHalfOrLong {σ : mc_G} {x : Int32} {k : Nat} (hx : x = nI k) (hk : k < 2 ^ 31) : Wp miX12_isHalfOrLong 0 [(0, .inl x)] [] σ (fun rv σ' => rv = some (.inl (bI (decide (k = 2 ∨ k = 3)))) ∧ σ' = σ) := by
  iterate 3 refine Wp.go rfl ?_
  refine Wp.eqN (a := k) (b := 2) hx (rfl : _ = nI 2) (by omega) (by omega) (fun (h1 : k = 2) => ?_) (fun (h1 : ¬ k = 2) => ?_)
  · iterate 2 refine Wp.go rfl ?_
    refine Wp.ret rfl ?_
    exact ⟨rv1 (by simp; omega), rfl⟩
  · iterate 3 refine Wp.go rfl ?_
    refine Wp.neN (a := k) (b := 3) hx (rfl : _ = nI 3) (by omega) (by omega) (fun (h2 : ¬ k = 3) => ?_) (fun (h2 : k = 3) => ?_)
    · refine Wp.go rfl ?_
      refine Wp.ret rfl ?_
      exact ⟨rv0 (by simp; omega), rfl⟩
    · iterate 2 refine Wp.go rfl ?_
      refine Wp.ret rfl ?_
      exact ⟨rv1 (by simp; omega), rfl⟩

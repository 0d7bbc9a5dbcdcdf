set_option maxRecDepth 100000 in
theorem sX11_local {K : kS} {σ : mc_G} (hK : cCls K σ) (hk : kOk K) {x y : Int32} {u v : Option Nat} (hu : oV x u) (hv : oV y v) : Wp miX11_local 0 [(0, .inr (some 0)), (1, .inl x), (2, .inl y)] [] σ (fun rv σ' => rv = some (.inl (lcR K u v).1) ∧ cCls (lcR K u v).2 σ' ∧ ofR 0 166 σ σ') := by
  rcases u with _ | p
  · have hx : x < 0 := hu
    rcases v with _ | q
    · have hy : y < 0 := hv
      iterate 2 refine Wp.go rfl ?_
      refine Wp.ltI (rfl : _ = x) (rfl : _ = nI 0) (fun _ => ?_) (fun q => absurd (neg_lt hx (by omega)) q)
      refine Wp.go rfl ?_
      refine Wp.ret rfl ?_
      exact ⟨rfl, hK, ofR.rf⟩
    · obtain ⟨hy, hlq⟩ := hv
      iterate 2 refine Wp.go rfl ?_
      refine Wp.ltI (rfl : _ = x) (rfl : _ = nI 0) (fun _ => ?_) (fun q => absurd (neg_lt hx (by omega)) q)
      refine Wp.go rfl ?_
      refine Wp.ret rfl ?_
      exact ⟨rfl, hK, ofR.rf⟩
  · obtain ⟨hx, hlp⟩ := hu
    rcases v with _ | q
    · have hy : y < 0 := hv
      iterate 2 refine Wp.go rfl ?_
      refine Wp.ltN (a := p) (b := 0) hx (rfl : _ = nI 0) (by omega) (by omega) (fun (h1 : p < 0) => ?_) (fun (h1 : ¬ p < 0) => ?_)
      · refine Wp.go rfl ?_
        refine Wp.ret rfl ?_
        exact ⟨rfl, hK, ofR.rf⟩
      · iterate 3 refine Wp.go rfl ?_
        refine Wp.ltN (a := p) (b := 8) hx (rfl : _ = nI 8) (by omega) (by omega) (fun (h2 : p < 8) => ?_) (fun (h2 : ¬ p < 8) => ?_)
        · iterate 3 refine Wp.go rfl ?_
          refine Wp.neI (rfl : _ = y) (rfl : _ = nI 2) (fun _ => ?_) (fun q => absurd q (neg_nI hy (by omega)))
          iterate 3 refine Wp.go rfl ?_
          refine Wp.call rfl cqX9_isPlain (sX9_isPlain_n hK.1 hk.1 hy) (fun rv1 s1 hq1 => ?_)
          obtain ⟨rfl, hq1⟩ := hq1
          replace hq1 := hq1.symm
          subst hq1
          refine Wp.go rfl ?_
          refine Wp.bneE (b := false) rfl (fun q => by cases q) (fun _ => ?_)
          refine Wp.go rfl ?_
          refine Wp.ret rfl ?_
          exact ⟨rfl, hK, ofR.rf⟩
        · refine Wp.go rfl ?_
          refine Wp.ret rfl ?_
          exact ⟨rfl, hK, ofR.rf⟩
    · obtain ⟨hy, hlq⟩ := hv
      iterate 2 refine Wp.go rfl ?_
      refine Wp.ltN (a := p) (b := 0) hx (rfl : _ = nI 0) (by omega) (by omega) (fun (h1 : p < 0) => ?_) (fun (h1 : ¬ p < 0) => ?_)
      · refine Wp.go rfl ?_
        refine Wp.ret rfl ?_
        have e1 : lcR K (some p) (some q) = (-2, K) := by show (if _ then _ else _) = _; rw [if_neg (by omega), if_neg (by first | omega | simp_all [plK, rfK, thK])]
        rw [e1]
        exact ⟨rfl, hK, ofR.rf⟩
      · iterate 3 refine Wp.go rfl ?_
        refine Wp.ltN (a := p) (b := 8) hx (rfl : _ = nI 8) (by omega) (by omega) (fun (h2 : p < 8) => ?_) (fun (h2 : ¬ p < 8) => ?_)
        · iterate 3 refine Wp.go rfl ?_
          refine Wp.neN (a := q) (b := 2) hy (rfl : _ = nI 2) (by omega) (by omega) (fun (h3 : ¬ q = 2) => ?_) (fun (h3 : q = 2) => ?_)
          · iterate 3 refine Wp.go rfl ?_
            refine Wp.call rfl cqX9_isPlain (sX9_isPlain hK.1 hk.1 hy (by omega)) (fun rv1 s1 hq1 => ?_)
            obtain ⟨rfl, hq1⟩ := hq1
            replace hq1 := hq1.symm
            subst hq1
            refine Wp.go rfl ?_
            refine Wp.bneE rfl (fun (h4 : (plK K.1 q) = true) => ?_) (fun (h4 : (plK K.1 q) = false) => ?_)
            · iterate 4 refine Wp.go rfl ?_
              refine Wp.call rfl cqX0_store (sX0_store isC_11 hK.2.2.1 hx (by omega) hy (by have := hk.1.2.1; simp [plK, rfK, thK] at *; omega)) (fun rv2 s2 hq2 => ?_)
              obtain ⟨rfl, hc2, ho2⟩ := hq2
              iterate 2 refine Wp.go rfl ?_
              refine Wp.call rfl cqX11_changed (sX11_changed (k := 1) rfl (by decide)) (fun rv3 s3 hq3 => ?_)
              obtain ⟨rfl, rfl⟩ := hq3
              refine Wp.ret rfl ?_
              have e1 : lcR K (some p) (some q) = (1, kN (kB K (soA K.2.2.1 p q))) := by show (if _ then _ else _) = _; rw [if_neg (by omega), if_pos ⟨by omega, by assumption⟩]
              rw [e1]
              exact ⟨rfl, (hK.beg ho2.r hc2).kn, (ho2.r.wi (by decide) (by decide)).tr ((up_r _ _ _ _).wi (by decide) (by decide))⟩
            · refine Wp.go rfl ?_
              refine Wp.ret rfl ?_
              have e1 : lcR K (some p) (some q) = (-2, K) := by show (if _ then _ else _) = _; rw [if_neg (by omega), if_neg (by first | omega | simp_all [plK, rfK, thK])]
              rw [e1]
              exact ⟨rfl, hK, ofR.rf⟩
          · iterate 3 refine Wp.go rfl ?_
            refine Wp.neN (a := p) (b := 7) hx (rfl : _ = nI 7) (by omega) (by omega) (fun (h5 : ¬ p = 7) => ?_) (fun (h5 : p = 7) => ?_)
            · iterate 3 refine Wp.go rfl ?_
              refine Wp.call rfl cqX0_storeLong (sX0_storeLong isC_11 hK.2.2.1 hx (by omega)) (fun rv4 s4 hq4 => ?_)
              obtain ⟨rfl, hc4, ho4⟩ := hq4
              iterate 2 refine Wp.go rfl ?_
              refine Wp.call rfl cqX11_changed (sX11_changed (k := 1) rfl (by decide)) (fun rv5 s5 hq5 => ?_)
              obtain ⟨rfl, rfl⟩ := hq5
              refine Wp.ret rfl ?_
              have e1 : lcR K (some p) (some q) = (1, kN (kB K (slA K.2.2.1 p))) := by show (if _ then _ else _) = _; rw [if_pos (by omega)]
              rw [e1]
              exact ⟨rfl, (hK.beg ho4.r hc4).kn, (ho4.r.wi (by decide) (by decide)).tr ((up_r _ _ _ _).wi (by decide) (by decide))⟩
            · refine Wp.go rfl ?_
              refine Wp.ret rfl ?_
              have e1 : lcR K (some p) (some q) = (-2, K) := by show (if _ then _ else _) = _; rw [if_neg (by omega), if_neg (by first | omega | simp_all [plK, rfK, thK])]
              rw [e1]
              exact ⟨rfl, hK, ofR.rf⟩
        · refine Wp.go rfl ?_
          refine Wp.ret rfl ?_
          have e1 : lcR K (some p) (some q) = (-2, K) := by show (if _ then _ else _) = _; rw [if_neg (by omega), if_neg (by first | omega | simp_all [plK, rfK, thK])]
          rw [e1]
          exact ⟨rfl, hK, ofR.rf⟩
theorem Wp.swN {cd : List mc_I} {lo : List (Nat × mc_V)} {st : List mc_V} {σ : mc_G} {Φ : Option mc_V → mc_G → Prop} {x : Int32} {r : List Nat} {l h : Int} (hx : x < 0) (hl : 0 ≤ l) (k : Wp cd (r.getD 0 0) lo st σ Φ) : Wp cd (if x.toInt < l ∨ h < x.toInt then r.getD 0 0 else r.getD ((x.toInt - l).toNat + 1) 0) lo st σ Φ := by
  have h1 := Int32.lt_iff_toInt_lt.mp hx
  have e0 : (0 : Int32).toInt = 0 := rfl
  rw [if_pos (Or.inl (by omega))]
  exact k
theorem Wp.retB {cd : List mc_I} {pc : Nat} {lo : List (Nat × mc_V)} {st : List mc_V} {σ : mc_G} {Φ : Option mc_V → mc_G → Prop} {x : Int32} {b : Bool} (hf : mc_find cd pc = some (.ireturn, 1, [1])) (hs : st = [.inl x]) (hx : x = bI b) (k : Φ (some (.inl x)) σ) : Wp cd pc lo st σ Φ := by
  subst hs
  refine Wp.ret ?_ k
  unfold mc_stp
  rw [hf]
  exact if_pos (Or.inr (bE_01 hx))
def nfU (T : tT) : Option Nat → Option Nat → Bool
  | some o, a => nfA T o a
  | none, _ => false
set_option maxRecDepth 100000 in
theorem sX11_isNumberFor {K : kS} {σ : mc_G} (hK : cCls K σ) (hk : kOk K) {x y : Int32} {u v : Option Nat} (hu : oV x u) (hv : oV y v) : Wp miX11_isNumberFor 0 [(0, .inr (some 0)), (1, .inl x), (2, .inl y)] [] σ (fun rv σ' => rv = some (.inl (bI (nfU K.1 u v))) ∧ σ' = σ) := by
  rcases u with _ | p
  · have hx : x < 0 := hu
    rcases v with _ | q
    · have hy : y < 0 := hv
      iterate 2 refine Wp.go rfl ?_
      refine Wp.swN hx (by decide) ?_
      iterate 2 refine Wp.go rfl ?_
      refine Wp.ltI (rfl : _ = x) (rfl : _ = nI 0) (fun _ => ?_) (fun q => absurd (neg_lt hx (by omega)) q)
      refine Wp.go rfl ?_
      refine Wp.ret rfl ?_
      exact ⟨rfl, rfl⟩
    · obtain ⟨hy, hlq⟩ := hv
      iterate 2 refine Wp.go rfl ?_
      refine Wp.swN hx (by decide) ?_
      iterate 2 refine Wp.go rfl ?_
      refine Wp.ltI (rfl : _ = x) (rfl : _ = nI 0) (fun _ => ?_) (fun q => absurd (neg_lt hx (by omega)) q)
      refine Wp.go rfl ?_
      refine Wp.ret rfl ?_
      exact ⟨rfl, rfl⟩
  · obtain ⟨hx, hlp⟩ := hu
    rcases v with _ | q
    · have hy : y < 0 := hv
      iterate 2 refine Wp.go rfl ?_
      by_cases hsw : 3 ≤ p ∧ p ≤ 18
      · have hsc : p = 3 ∨ p = 4 ∨ p = 5 ∨ p = 6 ∨ p = 7 ∨ p = 8 ∨ p = 9 ∨ p = 10 ∨ p = 11 ∨ p = 12 ∨ p = 13 ∨ p = 14 ∨ p = 15 ∨ p = 16 ∨ p = 17 ∨ p = 18 := by omega
        rcases hsc with hsv | hsv | hsv | hsv | hsv | hsv | hsv | hsv | hsv | hsv | hsv | hsv | hsv | hsv | hsv | hsv
        · refine Wp.swI 0 hx (by omega) (by omega) (by omega) ?_
          iterate 2 refine Wp.go rfl ?_
          refine Wp.ltI (rfl : _ = y) (rfl : _ = nI 0) (fun _ => ?_) (fun q => absurd (neg_lt hy (by omega)) q)
          refine Wp.go rfl ?_
          refine Wp.ret rfl ?_
          subst hsv
          refine ⟨rv0 ?_, rfl⟩
          unfold nfU nfA
          first | (simp [inU, *]; done) | (simp [inU]; omega) | (simp_all [inU]; done) | (simp_all [inU]; omega)
        · refine Wp.swI 1 hx (by omega) (by omega) (by omega) ?_
          iterate 2 refine Wp.go rfl ?_
          refine Wp.ltI (rfl : _ = y) (rfl : _ = nI 0) (fun _ => ?_) (fun q => absurd (neg_lt hy (by omega)) q)
          refine Wp.go rfl ?_
          refine Wp.ret rfl ?_
          subst hsv
          refine ⟨rv0 ?_, rfl⟩
          unfold nfU nfA
          first | (simp [inU, *]; done) | (simp [inU]; omega) | (simp_all [inU]; done) | (simp_all [inU]; omega)
        · refine Wp.swI 2 hx (by omega) (by omega) (by omega) ?_
          iterate 2 refine Wp.go rfl ?_
          refine Wp.ltI (rfl : _ = y) (rfl : _ = nI 0) (fun _ => ?_) (fun q => absurd (neg_lt hy (by omega)) q)
          refine Wp.go rfl ?_
          refine Wp.ret rfl ?_
          subst hsv
          refine ⟨rv0 ?_, rfl⟩
          unfold nfU nfA
          first | (simp [inU, *]; done) | (simp [inU]; omega) | (simp_all [inU]; done) | (simp_all [inU]; omega)
        · refine Wp.swI 3 hx (by omega) (by omega) (by omega) ?_
          iterate 2 refine Wp.go rfl ?_
          refine Wp.ltI (rfl : _ = y) (rfl : _ = nI 0) (fun _ => ?_) (fun q => absurd (neg_lt hy (by omega)) q)
          refine Wp.go rfl ?_
          refine Wp.ret rfl ?_
          subst hsv
          refine ⟨rv0 ?_, rfl⟩
          unfold nfU nfA
          first | (simp [inU, *]; done) | (simp [inU]; omega) | (simp_all [inU]; done) | (simp_all [inU]; omega)
        · refine Wp.swI 4 hx (by omega) (by omega) (by omega) ?_
          iterate 2 refine Wp.go rfl ?_
          refine Wp.ltN (a := p) (b := 0) hx (rfl : _ = nI 0) (by omega) (by omega) (fun (h5 : p < 0) => ?_) (fun (h5 : ¬ p < 0) => ?_)
          · refine Wp.go rfl ?_
            refine Wp.ret rfl ?_
            subst hsv
            refine ⟨rv0 ?_, rfl⟩
            unfold nfU nfA
            first | (simp [inU, *]; done) | (simp [inU]; omega) | (simp_all [inU]; done) | (simp_all [inU]; omega)
          · iterate 3 refine Wp.go rfl ?_
            refine Wp.gtN (a := p) (b := 20) hx (rfl : _ = nI 20) (by omega) (by omega) (fun (h6 : 20 < p) => ?_) (fun (h6 : ¬ 20 < p) => ?_)
            · refine Wp.go rfl ?_
              refine Wp.ret rfl ?_
              subst hsv
              refine ⟨rv0 ?_, rfl⟩
              unfold nfU nfA
              first | (simp [inU, *]; done) | (simp [inU]; omega) | (simp_all [inU]; done) | (simp_all [inU]; omega)
            · iterate 2 refine Wp.go rfl ?_
              refine Wp.ret rfl ?_
              subst hsv
              refine ⟨rv1 ?_, rfl⟩
              unfold nfU nfA
              first | (simp [inU, *]; done) | (simp [inU]; omega) | (simp_all [inU]; done) | (simp_all [inU]; omega)
        · refine Wp.swI 5 hx (by omega) (by omega) (by omega) ?_
          iterate 2 refine Wp.go rfl ?_
          refine Wp.ltN (a := p) (b := 0) hx (rfl : _ = nI 0) (by omega) (by omega) (fun (h7 : p < 0) => ?_) (fun (h7 : ¬ p < 0) => ?_)
          · refine Wp.go rfl ?_
            refine Wp.ret rfl ?_
            subst hsv
            refine ⟨rv0 ?_, rfl⟩
            unfold nfU nfA
            first | (simp [inU, *]; done) | (simp [inU]; omega) | (simp_all [inU]; done) | (simp_all [inU]; omega)
          · iterate 3 refine Wp.go rfl ?_
            refine Wp.gtN (a := p) (b := 20) hx (rfl : _ = nI 20) (by omega) (by omega) (fun (h8 : 20 < p) => ?_) (fun (h8 : ¬ 20 < p) => ?_)
            · refine Wp.go rfl ?_
              refine Wp.ret rfl ?_
              subst hsv
              refine ⟨rv0 ?_, rfl⟩
              unfold nfU nfA
              first | (simp [inU, *]; done) | (simp [inU]; omega) | (simp_all [inU]; done) | (simp_all [inU]; omega)
            · iterate 2 refine Wp.go rfl ?_
              refine Wp.ret rfl ?_
              subst hsv
              refine ⟨rv1 ?_, rfl⟩
              unfold nfU nfA
              first | (simp [inU, *]; done) | (simp [inU]; omega) | (simp_all [inU]; done) | (simp_all [inU]; omega)
        · refine Wp.swI 6 hx (by omega) (by omega) (by omega) ?_
          iterate 2 refine Wp.go rfl ?_
          refine Wp.ltN (a := p) (b := 0) hx (rfl : _ = nI 0) (by omega) (by omega) (fun (h9 : p < 0) => ?_) (fun (h9 : ¬ p < 0) => ?_)
          · refine Wp.go rfl ?_
            refine Wp.ret rfl ?_
            subst hsv
            refine ⟨rv0 ?_, rfl⟩
            unfold nfU nfA
            first | (simp [inU, *]; done) | (simp [inU]; omega) | (simp_all [inU]; done) | (simp_all [inU]; omega)
          · iterate 3 refine Wp.go rfl ?_
            refine Wp.gtN (a := p) (b := 20) hx (rfl : _ = nI 20) (by omega) (by omega) (fun (h10 : 20 < p) => ?_) (fun (h10 : ¬ 20 < p) => ?_)
            · refine Wp.go rfl ?_
              refine Wp.ret rfl ?_
              subst hsv
              refine ⟨rv0 ?_, rfl⟩
              unfold nfU nfA
              first | (simp [inU, *]; done) | (simp [inU]; omega) | (simp_all [inU]; done) | (simp_all [inU]; omega)
            · iterate 2 refine Wp.go rfl ?_
              refine Wp.ret rfl ?_
              subst hsv
              refine ⟨rv1 ?_, rfl⟩
              unfold nfU nfA
              first | (simp [inU, *]; done) | (simp [inU]; omega) | (simp_all [inU]; done) | (simp_all [inU]; omega)
        · refine Wp.swI 7 hx (by omega) (by omega) (by omega) ?_
          iterate 2 refine Wp.go rfl ?_
          refine Wp.ltN (a := p) (b := 0) hx (rfl : _ = nI 0) (by omega) (by omega) (fun (h11 : p < 0) => ?_) (fun (h11 : ¬ p < 0) => ?_)
          · refine Wp.go rfl ?_
            refine Wp.ret rfl ?_
            subst hsv
            refine ⟨rv0 ?_, rfl⟩
            unfold nfU nfA
            first | (simp [inU, *]; done) | (simp [inU]; omega) | (simp_all [inU]; done) | (simp_all [inU]; omega)
          · iterate 3 refine Wp.go rfl ?_
            refine Wp.gtN (a := p) (b := 20) hx (rfl : _ = nI 20) (by omega) (by omega) (fun (h12 : 20 < p) => ?_) (fun (h12 : ¬ 20 < p) => ?_)
            · refine Wp.go rfl ?_
              refine Wp.ret rfl ?_
              subst hsv
              refine ⟨rv0 ?_, rfl⟩
              unfold nfU nfA
              first | (simp [inU, *]; done) | (simp [inU]; omega) | (simp_all [inU]; done) | (simp_all [inU]; omega)
            · iterate 2 refine Wp.go rfl ?_
              refine Wp.ret rfl ?_
              subst hsv
              refine ⟨rv1 ?_, rfl⟩
              unfold nfU nfA
              first | (simp [inU, *]; done) | (simp [inU]; omega) | (simp_all [inU]; done) | (simp_all [inU]; omega)
        · refine Wp.swI 8 hx (by omega) (by omega) (by omega) ?_
          iterate 2 refine Wp.go rfl ?_
          refine Wp.ltN (a := p) (b := 0) hx (rfl : _ = nI 0) (by omega) (by omega) (fun (h13 : p < 0) => ?_) (fun (h13 : ¬ p < 0) => ?_)
          · refine Wp.go rfl ?_
            refine Wp.ret rfl ?_
            subst hsv
            refine ⟨rv0 ?_, rfl⟩
            unfold nfU nfA
            first | (simp [inU, *]; done) | (simp [inU]; omega) | (simp_all [inU]; done) | (simp_all [inU]; omega)
          · iterate 3 refine Wp.go rfl ?_
            refine Wp.gtN (a := p) (b := 20) hx (rfl : _ = nI 20) (by omega) (by omega) (fun (h14 : 20 < p) => ?_) (fun (h14 : ¬ 20 < p) => ?_)
            · refine Wp.go rfl ?_
              refine Wp.ret rfl ?_
              subst hsv
              refine ⟨rv0 ?_, rfl⟩
              unfold nfU nfA
              first | (simp [inU, *]; done) | (simp [inU]; omega) | (simp_all [inU]; done) | (simp_all [inU]; omega)
            · iterate 2 refine Wp.go rfl ?_
              refine Wp.ret rfl ?_
              subst hsv
              refine ⟨rv1 ?_, rfl⟩
              unfold nfU nfA
              first | (simp [inU, *]; done) | (simp [inU]; omega) | (simp_all [inU]; done) | (simp_all [inU]; omega)
        · refine Wp.swI 9 hx (by omega) (by omega) (by omega) ?_
          iterate 3 refine Wp.go rfl ?_
          refine Wp.call rfl cqX9_has (sX9_has_n hK.1 hk.1 hy) (fun rv1 s1 hq1 => ?_)
          obtain ⟨rfl, hq1⟩ := hq1
          replace hq1 := hq1.symm
          subst hq1
          refine Wp.go rfl ?_
          refine Wp.beqE (b := false) rfl (fun _ => ?_) (fun q => by cases q)
          refine Wp.go rfl ?_
          refine Wp.ret rfl ?_
          subst hsv
          refine ⟨rv0 ?_, rfl⟩
          unfold nfU nfA
          first | (simp [inU, *]; done) | (simp [inU]; omega) | (simp_all [inU]; done) | (simp_all [inU]; omega)
        · refine Wp.swI 10 hx (by omega) (by omega) (by omega) ?_
          iterate 2 refine Wp.go rfl ?_
          refine Wp.ltN (a := p) (b := 0) hx (rfl : _ = nI 0) (by omega) (by omega) (fun (h16 : p < 0) => ?_) (fun (h16 : ¬ p < 0) => ?_)
          · refine Wp.go rfl ?_
            refine Wp.ret rfl ?_
            subst hsv
            refine ⟨rv0 ?_, rfl⟩
            unfold nfU nfA
            first | (simp [inU, *]; done) | (simp [inU]; omega) | (simp_all [inU]; done) | (simp_all [inU]; omega)
          · iterate 3 refine Wp.go rfl ?_
            refine Wp.gtN (a := p) (b := 20) hx (rfl : _ = nI 20) (by omega) (by omega) (fun (h17 : 20 < p) => ?_) (fun (h17 : ¬ 20 < p) => ?_)
            · refine Wp.go rfl ?_
              refine Wp.ret rfl ?_
              subst hsv
              refine ⟨rv0 ?_, rfl⟩
              unfold nfU nfA
              first | (simp [inU, *]; done) | (simp [inU]; omega) | (simp_all [inU]; done) | (simp_all [inU]; omega)
            · iterate 2 refine Wp.go rfl ?_
              refine Wp.ret rfl ?_
              subst hsv
              refine ⟨rv1 ?_, rfl⟩
              unfold nfU nfA
              first | (simp [inU, *]; done) | (simp [inU]; omega) | (simp_all [inU]; done) | (simp_all [inU]; omega)
        · refine Wp.swI 11 hx (by omega) (by omega) (by omega) ?_
          iterate 3 refine Wp.go rfl ?_
          refine Wp.call rfl cqX9_has (sX9_has_n hK.1 hk.1 hy) (fun rv2 s2 hq2 => ?_)
          obtain ⟨rfl, hq2⟩ := hq2
          replace hq2 := hq2.symm
          subst hq2
          refine Wp.retB (b := false) rfl rfl rfl ?_
          subst hsv
          refine ⟨?_, rfl⟩
          refine rvB rfl ?_
          unfold nfU nfA; simp [inU]
        · refine Wp.swI 12 hx (by omega) (by omega) (by omega) ?_
          iterate 3 refine Wp.go rfl ?_
          refine Wp.call rfl cqX9_has (sX9_has_n hK.1 hk.1 hy) (fun rv3 s3 hq3 => ?_)
          obtain ⟨rfl, hq3⟩ := hq3
          replace hq3 := hq3.symm
          subst hq3
          refine Wp.retB (b := false) rfl rfl rfl ?_
          subst hsv
          refine ⟨?_, rfl⟩
          refine rvB rfl ?_
          unfold nfU nfA; simp [inU]
        · refine Wp.swI 13 hx (by omega) (by omega) (by omega) ?_
          iterate 2 refine Wp.go rfl ?_
          refine Wp.ltI (rfl : _ = y) (rfl : _ = nI 0) (fun _ => ?_) (fun q => absurd (neg_lt hy (by omega)) q)
          refine Wp.go rfl ?_
          refine Wp.ret rfl ?_
          subst hsv
          refine ⟨rv0 ?_, rfl⟩
          unfold nfU nfA
          first | (simp [inU, *]; done) | (simp [inU]; omega) | (simp_all [inU]; done) | (simp_all [inU]; omega)
        · refine Wp.swI 14 hx (by omega) (by omega) (by omega) ?_
          iterate 2 refine Wp.go rfl ?_
          refine Wp.ltI (rfl : _ = y) (rfl : _ = nI 0) (fun _ => ?_) (fun q => absurd (neg_lt hy (by omega)) q)
          refine Wp.go rfl ?_
          refine Wp.ret rfl ?_
          subst hsv
          refine ⟨rv0 ?_, rfl⟩
          unfold nfU nfA
          first | (simp [inU, *]; done) | (simp [inU]; omega) | (simp_all [inU]; done) | (simp_all [inU]; omega)
        · refine Wp.swI 15 hx (by omega) (by omega) (by omega) ?_
          iterate 2 refine Wp.go rfl ?_
          refine Wp.ltI (rfl : _ = y) (rfl : _ = nI 0) (fun _ => ?_) (fun q => absurd (neg_lt hy (by omega)) q)
          refine Wp.go rfl ?_
          refine Wp.ret rfl ?_
          subst hsv
          refine ⟨rv0 ?_, rfl⟩
          unfold nfU nfA
          first | (simp [inU, *]; done) | (simp [inU]; omega) | (simp_all [inU]; done) | (simp_all [inU]; omega)
      · refine Wp.swO hx (by omega) (by omega) ?_
        iterate 2 refine Wp.go rfl ?_
        refine Wp.ltN (a := p) (b := 0) hx (rfl : _ = nI 0) (by omega) (by omega) (fun (h21 : p < 0) => ?_) (fun (h21 : ¬ p < 0) => ?_)
        · refine Wp.go rfl ?_
          refine Wp.ret rfl ?_
          refine ⟨rv0 ?_, rfl⟩
          show nfA K.1 p _ = _
          rw [nfA, if_neg (by omega), if_neg (by omega), if_neg (by omega), if_neg (by omega), if_neg (by omega)]
          simp; omega
        · iterate 3 refine Wp.go rfl ?_
          refine Wp.gtN (a := p) (b := 20) hx (rfl : _ = nI 20) (by omega) (by omega) (fun (h22 : 20 < p) => ?_) (fun (h22 : ¬ 20 < p) => ?_)
          · refine Wp.go rfl ?_
            refine Wp.ret rfl ?_
            refine ⟨rv0 ?_, rfl⟩
            show nfA K.1 p _ = _
            rw [nfA, if_neg (by omega), if_neg (by omega), if_neg (by omega), if_neg (by omega), if_neg (by omega)]
            simp; omega
          · iterate 2 refine Wp.go rfl ?_
            refine Wp.ret rfl ?_
            refine ⟨rv1 ?_, rfl⟩
            show nfA K.1 p _ = _
            rw [nfA, if_neg (by omega), if_neg (by omega), if_neg (by omega), if_neg (by omega), if_neg (by omega)]
            simp; omega
    · obtain ⟨hy, hlq⟩ := hv
      iterate 2 refine Wp.go rfl ?_
      by_cases hsw : 3 ≤ p ∧ p ≤ 18
      · have hsc : p = 3 ∨ p = 4 ∨ p = 5 ∨ p = 6 ∨ p = 7 ∨ p = 8 ∨ p = 9 ∨ p = 10 ∨ p = 11 ∨ p = 12 ∨ p = 13 ∨ p = 14 ∨ p = 15 ∨ p = 16 ∨ p = 17 ∨ p = 18 := by omega
        rcases hsc with hsv | hsv | hsv | hsv | hsv | hsv | hsv | hsv | hsv | hsv | hsv | hsv | hsv | hsv | hsv | hsv
        · refine Wp.swI 0 hx (by omega) (by omega) (by omega) ?_
          iterate 2 refine Wp.go rfl ?_
          refine Wp.ltN (a := q) (b := 0) hy (rfl : _ = nI 0) (by omega) (by omega) (fun (h1 : q < 0) => ?_) (fun (h1 : ¬ q < 0) => ?_)
          · refine Wp.go rfl ?_
            refine Wp.ret rfl ?_
            subst hsv
            refine ⟨rv0 ?_, rfl⟩
            unfold nfU nfA
            first | (simp [inU, *]; done) | (simp [inU]; omega) | (simp_all [inU]; done) | (simp_all [inU]; omega)
          · iterate 3 refine Wp.go rfl ?_
            refine Wp.geN (a := q) (b := 8) hy (rfl : _ = nI 8) (by omega) (by omega) (fun (h2 : ¬ q < 8) => ?_) (fun (h2 : q < 8) => ?_)
            · refine Wp.go rfl ?_
              refine Wp.ret rfl ?_
              subst hsv
              refine ⟨rv0 ?_, rfl⟩
              unfold nfU nfA
              first | (simp [inU, *]; done) | (simp [inU]; omega) | (simp_all [inU]; done) | (simp_all [inU]; omega)
            · iterate 2 refine Wp.go rfl ?_
              refine Wp.ret rfl ?_
              subst hsv
              refine ⟨rv1 ?_, rfl⟩
              unfold nfU nfA
              first | (simp [inU, *]; done) | (simp [inU]; omega) | (simp_all [inU]; done) | (simp_all [inU]; omega)
        · refine Wp.swI 1 hx (by omega) (by omega) (by omega) ?_
          iterate 2 refine Wp.go rfl ?_
          refine Wp.ltN (a := q) (b := 0) hy (rfl : _ = nI 0) (by omega) (by omega) (fun (h3 : q < 0) => ?_) (fun (h3 : ¬ q < 0) => ?_)
          · refine Wp.go rfl ?_
            refine Wp.ret rfl ?_
            subst hsv
            refine ⟨rv0 ?_, rfl⟩
            unfold nfU nfA
            first | (simp [inU, *]; done) | (simp [inU]; omega) | (simp_all [inU]; done) | (simp_all [inU]; omega)
          · iterate 3 refine Wp.go rfl ?_
            refine Wp.geN (a := q) (b := 7) hy (rfl : _ = nI 7) (by omega) (by omega) (fun (h4 : ¬ q < 7) => ?_) (fun (h4 : q < 7) => ?_)
            · refine Wp.go rfl ?_
              refine Wp.ret rfl ?_
              subst hsv
              refine ⟨rv0 ?_, rfl⟩
              unfold nfU nfA
              first | (simp [inU, *]; done) | (simp [inU]; omega) | (simp_all [inU]; done) | (simp_all [inU]; omega)
            · iterate 2 refine Wp.go rfl ?_
              refine Wp.ret rfl ?_
              subst hsv
              refine ⟨rv1 ?_, rfl⟩
              unfold nfU nfA
              first | (simp [inU, *]; done) | (simp [inU]; omega) | (simp_all [inU]; done) | (simp_all [inU]; omega)
        · refine Wp.swI 2 hx (by omega) (by omega) (by omega) ?_
          iterate 2 refine Wp.go rfl ?_
          refine Wp.ltN (a := q) (b := 0) hy (rfl : _ = nI 0) (by omega) (by omega) (fun (h5 : q < 0) => ?_) (fun (h5 : ¬ q < 0) => ?_)
          · refine Wp.go rfl ?_
            refine Wp.ret rfl ?_
            subst hsv
            refine ⟨rv0 ?_, rfl⟩
            unfold nfU nfA
            first | (simp [inU, *]; done) | (simp [inU]; omega) | (simp_all [inU]; done) | (simp_all [inU]; omega)
          · iterate 3 refine Wp.go rfl ?_
            refine Wp.geN (a := q) (b := 8) hy (rfl : _ = nI 8) (by omega) (by omega) (fun (h6 : ¬ q < 8) => ?_) (fun (h6 : q < 8) => ?_)
            · refine Wp.go rfl ?_
              refine Wp.ret rfl ?_
              subst hsv
              refine ⟨rv0 ?_, rfl⟩
              unfold nfU nfA
              first | (simp [inU, *]; done) | (simp [inU]; omega) | (simp_all [inU]; done) | (simp_all [inU]; omega)
            · iterate 2 refine Wp.go rfl ?_
              refine Wp.ret rfl ?_
              subst hsv
              refine ⟨rv1 ?_, rfl⟩
              unfold nfU nfA
              first | (simp [inU, *]; done) | (simp [inU]; omega) | (simp_all [inU]; done) | (simp_all [inU]; omega)
        · refine Wp.swI 3 hx (by omega) (by omega) (by omega) ?_
          iterate 2 refine Wp.go rfl ?_
          refine Wp.ltN (a := q) (b := 0) hy (rfl : _ = nI 0) (by omega) (by omega) (fun (h7 : q < 0) => ?_) (fun (h7 : ¬ q < 0) => ?_)
          · refine Wp.go rfl ?_
            refine Wp.ret rfl ?_
            subst hsv
            refine ⟨rv0 ?_, rfl⟩
            unfold nfU nfA
            first | (simp [inU, *]; done) | (simp [inU]; omega) | (simp_all [inU]; done) | (simp_all [inU]; omega)
          · iterate 3 refine Wp.go rfl ?_
            refine Wp.geN (a := q) (b := 7) hy (rfl : _ = nI 7) (by omega) (by omega) (fun (h8 : ¬ q < 7) => ?_) (fun (h8 : q < 7) => ?_)
            · refine Wp.go rfl ?_
              refine Wp.ret rfl ?_
              subst hsv
              refine ⟨rv0 ?_, rfl⟩
              unfold nfU nfA
              first | (simp [inU, *]; done) | (simp [inU]; omega) | (simp_all [inU]; done) | (simp_all [inU]; omega)
            · iterate 2 refine Wp.go rfl ?_
              refine Wp.ret rfl ?_
              subst hsv
              refine ⟨rv1 ?_, rfl⟩
              unfold nfU nfA
              first | (simp [inU, *]; done) | (simp [inU]; omega) | (simp_all [inU]; done) | (simp_all [inU]; omega)
        · refine Wp.swI 4 hx (by omega) (by omega) (by omega) ?_
          iterate 2 refine Wp.go rfl ?_
          refine Wp.ltN (a := p) (b := 0) hx (rfl : _ = nI 0) (by omega) (by omega) (fun (h9 : p < 0) => ?_) (fun (h9 : ¬ p < 0) => ?_)
          · refine Wp.go rfl ?_
            refine Wp.ret rfl ?_
            subst hsv
            refine ⟨rv0 ?_, rfl⟩
            unfold nfU nfA
            first | (simp [inU, *]; done) | (simp [inU]; omega) | (simp_all [inU]; done) | (simp_all [inU]; omega)
          · iterate 3 refine Wp.go rfl ?_
            refine Wp.gtN (a := p) (b := 20) hx (rfl : _ = nI 20) (by omega) (by omega) (fun (h10 : 20 < p) => ?_) (fun (h10 : ¬ 20 < p) => ?_)
            · refine Wp.go rfl ?_
              refine Wp.ret rfl ?_
              subst hsv
              refine ⟨rv0 ?_, rfl⟩
              unfold nfU nfA
              first | (simp [inU, *]; done) | (simp [inU]; omega) | (simp_all [inU]; done) | (simp_all [inU]; omega)
            · iterate 2 refine Wp.go rfl ?_
              refine Wp.ret rfl ?_
              subst hsv
              refine ⟨rv1 ?_, rfl⟩
              unfold nfU nfA
              first | (simp [inU, *]; done) | (simp [inU]; omega) | (simp_all [inU]; done) | (simp_all [inU]; omega)
        · refine Wp.swI 5 hx (by omega) (by omega) (by omega) ?_
          iterate 2 refine Wp.go rfl ?_
          refine Wp.ltN (a := p) (b := 0) hx (rfl : _ = nI 0) (by omega) (by omega) (fun (h11 : p < 0) => ?_) (fun (h11 : ¬ p < 0) => ?_)
          · refine Wp.go rfl ?_
            refine Wp.ret rfl ?_
            subst hsv
            refine ⟨rv0 ?_, rfl⟩
            unfold nfU nfA
            first | (simp [inU, *]; done) | (simp [inU]; omega) | (simp_all [inU]; done) | (simp_all [inU]; omega)
          · iterate 3 refine Wp.go rfl ?_
            refine Wp.gtN (a := p) (b := 20) hx (rfl : _ = nI 20) (by omega) (by omega) (fun (h12 : 20 < p) => ?_) (fun (h12 : ¬ 20 < p) => ?_)
            · refine Wp.go rfl ?_
              refine Wp.ret rfl ?_
              subst hsv
              refine ⟨rv0 ?_, rfl⟩
              unfold nfU nfA
              first | (simp [inU, *]; done) | (simp [inU]; omega) | (simp_all [inU]; done) | (simp_all [inU]; omega)
            · iterate 2 refine Wp.go rfl ?_
              refine Wp.ret rfl ?_
              subst hsv
              refine ⟨rv1 ?_, rfl⟩
              unfold nfU nfA
              first | (simp [inU, *]; done) | (simp [inU]; omega) | (simp_all [inU]; done) | (simp_all [inU]; omega)
        · refine Wp.swI 6 hx (by omega) (by omega) (by omega) ?_
          iterate 2 refine Wp.go rfl ?_
          refine Wp.ltN (a := p) (b := 0) hx (rfl : _ = nI 0) (by omega) (by omega) (fun (h13 : p < 0) => ?_) (fun (h13 : ¬ p < 0) => ?_)
          · refine Wp.go rfl ?_
            refine Wp.ret rfl ?_
            subst hsv
            refine ⟨rv0 ?_, rfl⟩
            unfold nfU nfA
            first | (simp [inU, *]; done) | (simp [inU]; omega) | (simp_all [inU]; done) | (simp_all [inU]; omega)
          · iterate 3 refine Wp.go rfl ?_
            refine Wp.gtN (a := p) (b := 20) hx (rfl : _ = nI 20) (by omega) (by omega) (fun (h14 : 20 < p) => ?_) (fun (h14 : ¬ 20 < p) => ?_)
            · refine Wp.go rfl ?_
              refine Wp.ret rfl ?_
              subst hsv
              refine ⟨rv0 ?_, rfl⟩
              unfold nfU nfA
              first | (simp [inU, *]; done) | (simp [inU]; omega) | (simp_all [inU]; done) | (simp_all [inU]; omega)
            · iterate 2 refine Wp.go rfl ?_
              refine Wp.ret rfl ?_
              subst hsv
              refine ⟨rv1 ?_, rfl⟩
              unfold nfU nfA
              first | (simp [inU, *]; done) | (simp [inU]; omega) | (simp_all [inU]; done) | (simp_all [inU]; omega)
        · refine Wp.swI 7 hx (by omega) (by omega) (by omega) ?_
          iterate 2 refine Wp.go rfl ?_
          refine Wp.ltN (a := p) (b := 0) hx (rfl : _ = nI 0) (by omega) (by omega) (fun (h15 : p < 0) => ?_) (fun (h15 : ¬ p < 0) => ?_)
          · refine Wp.go rfl ?_
            refine Wp.ret rfl ?_
            subst hsv
            refine ⟨rv0 ?_, rfl⟩
            unfold nfU nfA
            first | (simp [inU, *]; done) | (simp [inU]; omega) | (simp_all [inU]; done) | (simp_all [inU]; omega)
          · iterate 3 refine Wp.go rfl ?_
            refine Wp.gtN (a := p) (b := 20) hx (rfl : _ = nI 20) (by omega) (by omega) (fun (h16 : 20 < p) => ?_) (fun (h16 : ¬ 20 < p) => ?_)
            · refine Wp.go rfl ?_
              refine Wp.ret rfl ?_
              subst hsv
              refine ⟨rv0 ?_, rfl⟩
              unfold nfU nfA
              first | (simp [inU, *]; done) | (simp [inU]; omega) | (simp_all [inU]; done) | (simp_all [inU]; omega)
            · iterate 2 refine Wp.go rfl ?_
              refine Wp.ret rfl ?_
              subst hsv
              refine ⟨rv1 ?_, rfl⟩
              unfold nfU nfA
              first | (simp [inU, *]; done) | (simp [inU]; omega) | (simp_all [inU]; done) | (simp_all [inU]; omega)
        · refine Wp.swI 8 hx (by omega) (by omega) (by omega) ?_
          iterate 2 refine Wp.go rfl ?_
          refine Wp.ltN (a := p) (b := 0) hx (rfl : _ = nI 0) (by omega) (by omega) (fun (h17 : p < 0) => ?_) (fun (h17 : ¬ p < 0) => ?_)
          · refine Wp.go rfl ?_
            refine Wp.ret rfl ?_
            subst hsv
            refine ⟨rv0 ?_, rfl⟩
            unfold nfU nfA
            first | (simp [inU, *]; done) | (simp [inU]; omega) | (simp_all [inU]; done) | (simp_all [inU]; omega)
          · iterate 3 refine Wp.go rfl ?_
            refine Wp.gtN (a := p) (b := 20) hx (rfl : _ = nI 20) (by omega) (by omega) (fun (h18 : 20 < p) => ?_) (fun (h18 : ¬ 20 < p) => ?_)
            · refine Wp.go rfl ?_
              refine Wp.ret rfl ?_
              subst hsv
              refine ⟨rv0 ?_, rfl⟩
              unfold nfU nfA
              first | (simp [inU, *]; done) | (simp [inU]; omega) | (simp_all [inU]; done) | (simp_all [inU]; omega)
            · iterate 2 refine Wp.go rfl ?_
              refine Wp.ret rfl ?_
              subst hsv
              refine ⟨rv1 ?_, rfl⟩
              unfold nfU nfA
              first | (simp [inU, *]; done) | (simp [inU]; omega) | (simp_all [inU]; done) | (simp_all [inU]; omega)
        · refine Wp.swI 9 hx (by omega) (by omega) (by omega) ?_
          iterate 3 refine Wp.go rfl ?_
          refine Wp.call rfl cqX9_has (sX9_has hK.1 hk.1 hy (by omega)) (fun rv1 s1 hq1 => ?_)
          obtain ⟨rfl, hq1⟩ := hq1
          replace hq1 := hq1.symm
          subst hq1
          refine Wp.go rfl ?_
          refine Wp.beqD (p := q < tc K.1) rfl (fun (h19 : ¬ (q < tc K.1)) => ?_) (fun (h19 : q < tc K.1) => ?_)
          · refine Wp.go rfl ?_
            refine Wp.ret rfl ?_
            subst hsv
            refine ⟨rv0 ?_, rfl⟩
            unfold nfU nfA
            first | (simp [inU, *]; done) | (simp [inU]; omega) | (simp_all [inU]; done) | (simp_all [inU]; omega)
          · iterate 3 refine Wp.go rfl ?_
            refine Wp.call rfl cqX9_isFace (sX9_isFace hK.1 hk.1 hy (by omega)) (fun rv2 s2 hq2 => ?_)
            obtain ⟨rfl, hq2⟩ := hq2
            replace hq2 := hq2.symm
            subst hq2
            refine Wp.go rfl ?_
            refine Wp.bneE rfl (fun (h20 : (decide (q < tc K.1) && tf K.1 q) = true) => ?_) (fun (h20 : (decide (q < tc K.1) && tf K.1 q) = false) => ?_)
            · refine Wp.go rfl ?_
              refine Wp.ret rfl ?_
              subst hsv
              refine ⟨rv0 ?_, rfl⟩
              unfold nfU nfA
              first | (simp [inU, *]; done) | (simp [inU]; omega) | (simp_all [inU]; done) | (simp_all [inU]; omega)
            · iterate 2 refine Wp.go rfl ?_
              refine Wp.ret rfl ?_
              subst hsv
              refine ⟨rv1 ?_, rfl⟩
              unfold nfU nfA
              first | (simp [inU, *]; done) | (simp [inU]; omega) | (simp_all [inU]; done) | (simp_all [inU]; omega)
        · refine Wp.swI 10 hx (by omega) (by omega) (by omega) ?_
          iterate 2 refine Wp.go rfl ?_
          refine Wp.ltN (a := p) (b := 0) hx (rfl : _ = nI 0) (by omega) (by omega) (fun (h21 : p < 0) => ?_) (fun (h21 : ¬ p < 0) => ?_)
          · refine Wp.go rfl ?_
            refine Wp.ret rfl ?_
            subst hsv
            refine ⟨rv0 ?_, rfl⟩
            unfold nfU nfA
            first | (simp [inU, *]; done) | (simp [inU]; omega) | (simp_all [inU]; done) | (simp_all [inU]; omega)
          · iterate 3 refine Wp.go rfl ?_
            refine Wp.gtN (a := p) (b := 20) hx (rfl : _ = nI 20) (by omega) (by omega) (fun (h22 : 20 < p) => ?_) (fun (h22 : ¬ 20 < p) => ?_)
            · refine Wp.go rfl ?_
              refine Wp.ret rfl ?_
              subst hsv
              refine ⟨rv0 ?_, rfl⟩
              unfold nfU nfA
              first | (simp [inU, *]; done) | (simp [inU]; omega) | (simp_all [inU]; done) | (simp_all [inU]; omega)
            · iterate 2 refine Wp.go rfl ?_
              refine Wp.ret rfl ?_
              subst hsv
              refine ⟨rv1 ?_, rfl⟩
              unfold nfU nfA
              first | (simp [inU, *]; done) | (simp [inU]; omega) | (simp_all [inU]; done) | (simp_all [inU]; omega)
        · refine Wp.swI 11 hx (by omega) (by omega) (by omega) ?_
          iterate 3 refine Wp.go rfl ?_
          refine Wp.call rfl cqX9_has (sX9_has hK.1 hk.1 hy (by omega)) (fun rv3 s3 hq3 => ?_)
          obtain ⟨rfl, hq3⟩ := hq3
          replace hq3 := hq3.symm
          subst hq3
          refine Wp.retB (b := decide (q < tc K.1)) rfl rfl rfl ?_
          subst hsv
          refine ⟨?_, rfl⟩
          refine rvB rfl ?_
          unfold nfU nfA; simp [inU]
        · refine Wp.swI 12 hx (by omega) (by omega) (by omega) ?_
          iterate 3 refine Wp.go rfl ?_
          refine Wp.call rfl cqX9_has (sX9_has hK.1 hk.1 hy (by omega)) (fun rv4 s4 hq4 => ?_)
          obtain ⟨rfl, hq4⟩ := hq4
          replace hq4 := hq4.symm
          subst hq4
          refine Wp.retB (b := decide (q < tc K.1)) rfl rfl rfl ?_
          subst hsv
          refine ⟨?_, rfl⟩
          refine rvB rfl ?_
          unfold nfU nfA; simp [inU]
        · refine Wp.swI 13 hx (by omega) (by omega) (by omega) ?_
          iterate 2 refine Wp.go rfl ?_
          refine Wp.ltN (a := q) (b := 0) hy (rfl : _ = nI 0) (by omega) (by omega) (fun (h23 : q < 0) => ?_) (fun (h23 : ¬ q < 0) => ?_)
          · refine Wp.go rfl ?_
            refine Wp.ret rfl ?_
            subst hsv
            refine ⟨rv0 ?_, rfl⟩
            unfold nfU nfA
            first | (simp [inU, *]; done) | (simp [inU]; omega) | (simp_all [inU]; done) | (simp_all [inU]; omega)
          · iterate 3 refine Wp.go rfl ?_
            refine Wp.geN (a := q) (b := 30) hy (rfl : _ = nI 30) (by omega) (by omega) (fun (h24 : ¬ q < 30) => ?_) (fun (h24 : q < 30) => ?_)
            · refine Wp.go rfl ?_
              refine Wp.ret rfl ?_
              subst hsv
              refine ⟨rv0 ?_, rfl⟩
              unfold nfU nfA
              first | (simp [inU, *]; done) | (simp [inU]; omega) | (simp_all [inU]; done) | (simp_all [inU]; omega)
            · iterate 2 refine Wp.go rfl ?_
              refine Wp.ret rfl ?_
              subst hsv
              refine ⟨rv1 ?_, rfl⟩
              unfold nfU nfA
              first | (simp [inU, *]; done) | (simp [inU]; omega) | (simp_all [inU]; done) | (simp_all [inU]; omega)
        · refine Wp.swI 14 hx (by omega) (by omega) (by omega) ?_
          iterate 2 refine Wp.go rfl ?_
          refine Wp.ltN (a := q) (b := 0) hy (rfl : _ = nI 0) (by omega) (by omega) (fun (h25 : q < 0) => ?_) (fun (h25 : ¬ q < 0) => ?_)
          · refine Wp.go rfl ?_
            refine Wp.ret rfl ?_
            subst hsv
            refine ⟨rv0 ?_, rfl⟩
            unfold nfU nfA
            first | (simp [inU, *]; done) | (simp [inU]; omega) | (simp_all [inU]; done) | (simp_all [inU]; omega)
          · iterate 3 refine Wp.go rfl ?_
            refine Wp.geN (a := q) (b := 30) hy (rfl : _ = nI 30) (by omega) (by omega) (fun (h26 : ¬ q < 30) => ?_) (fun (h26 : q < 30) => ?_)
            · refine Wp.go rfl ?_
              refine Wp.ret rfl ?_
              subst hsv
              refine ⟨rv0 ?_, rfl⟩
              unfold nfU nfA
              first | (simp [inU, *]; done) | (simp [inU]; omega) | (simp_all [inU]; done) | (simp_all [inU]; omega)
            · iterate 2 refine Wp.go rfl ?_
              refine Wp.ret rfl ?_
              subst hsv
              refine ⟨rv1 ?_, rfl⟩
              unfold nfU nfA
              first | (simp [inU, *]; done) | (simp [inU]; omega) | (simp_all [inU]; done) | (simp_all [inU]; omega)
        · refine Wp.swI 15 hx (by omega) (by omega) (by omega) ?_
          iterate 2 refine Wp.go rfl ?_
          refine Wp.ltN (a := q) (b := 0) hy (rfl : _ = nI 0) (by omega) (by omega) (fun (h27 : q < 0) => ?_) (fun (h27 : ¬ q < 0) => ?_)
          · refine Wp.go rfl ?_
            refine Wp.ret rfl ?_
            subst hsv
            refine ⟨rv0 ?_, rfl⟩
            unfold nfU nfA
            first | (simp [inU, *]; done) | (simp [inU]; omega) | (simp_all [inU]; done) | (simp_all [inU]; omega)
          · iterate 3 refine Wp.go rfl ?_
            refine Wp.geN (a := q) (b := 30) hy (rfl : _ = nI 30) (by omega) (by omega) (fun (h28 : ¬ q < 30) => ?_) (fun (h28 : q < 30) => ?_)
            · refine Wp.go rfl ?_
              refine Wp.ret rfl ?_
              subst hsv
              refine ⟨rv0 ?_, rfl⟩
              unfold nfU nfA
              first | (simp [inU, *]; done) | (simp [inU]; omega) | (simp_all [inU]; done) | (simp_all [inU]; omega)
            · iterate 2 refine Wp.go rfl ?_
              refine Wp.ret rfl ?_
              subst hsv
              refine ⟨rv1 ?_, rfl⟩
              unfold nfU nfA
              first | (simp [inU, *]; done) | (simp [inU]; omega) | (simp_all [inU]; done) | (simp_all [inU]; omega)
      · refine Wp.swO hx (by omega) (by omega) ?_
        iterate 2 refine Wp.go rfl ?_
        refine Wp.ltN (a := p) (b := 0) hx (rfl : _ = nI 0) (by omega) (by omega) (fun (h29 : p < 0) => ?_) (fun (h29 : ¬ p < 0) => ?_)
        · refine Wp.go rfl ?_
          refine Wp.ret rfl ?_
          refine ⟨rv0 ?_, rfl⟩
          show nfA K.1 p _ = _
          rw [nfA, if_neg (by omega), if_neg (by omega), if_neg (by omega), if_neg (by omega), if_neg (by omega)]
          simp; omega
        · iterate 3 refine Wp.go rfl ?_
          refine Wp.gtN (a := p) (b := 20) hx (rfl : _ = nI 20) (by omega) (by omega) (fun (h30 : 20 < p) => ?_) (fun (h30 : ¬ 20 < p) => ?_)
          · refine Wp.go rfl ?_
            refine Wp.ret rfl ?_
            refine ⟨rv0 ?_, rfl⟩
            show nfA K.1 p _ = _
            rw [nfA, if_neg (by omega), if_neg (by omega), if_neg (by omega), if_neg (by omega), if_neg (by omega)]
            simp; omega
          · iterate 2 refine Wp.go rfl ?_
            refine Wp.ret rfl ?_
            refine ⟨rv1 ?_, rfl⟩
            show nfA K.1 p _ = _
            rw [nfA, if_neg (by omega), if_neg (by omega), if_neg (by omega), if_neg (by omega), if_neg (by omega)]
            simp; omega

theorem cMod.enB {K : kS} {c : cS} {σ : mc_G} (hT : cMT K.1 σ) (hP : cMP K.2.1 σ) (hB : arP 170 8 c.2 σ) (hf : σ 167 14 = nI K.2.2.2.2.2.2.2) : cMod (kN (kB K c)) (mc_up σ 167 13 0) := cMod.en (K := kB K c) hT hP hB hf
theorem cMod.enP {K : kS} {P : pT} {σ : mc_G} (hT : cMT K.1 σ) (hP : cMP P σ) (hB : cMB K.2.2.1 σ) (hf : σ 167 14 = nI K.2.2.2.2.2.2.2) : cMod (kN (kP K P)) (mc_up σ 167 13 0) := cMod.en (K := kP K P) hT hP hB hf
set_option maxRecDepth 100000 in
theorem ksX12_local {K : kS} {σ : mc_G} (hM : cMod K σ) (hk : kOk K) {x y : Int32} {u v : Option Nat} (hu : oV x u) (hv : oV y v) : Wp miX12_local 5 [(0, .inr (some 167)), (1, .inl x), (2, .inl y)] [] σ (fun rv σ' => rv = some (.inl (lcR K u v).1) ∧ cMod (lcR K u v).2 σ' ∧ ofR 167 186 σ σ') := by
  have h8 := hk.1.2.1
  rcases u with _ | p
  · have hx : x < 0 := hu
    rcases v with _ | q
    · have hy : y < 0 := hv
      iterate 3 refine Wp.go rfl ?_
      refine Wp.call rfl cqX12_isIn (sX12_isIn_g hx (rfl : _ = nI 0) (by decide)) (fun rv1 s1 hq1 => ?_)
      obtain ⟨rfl, hq1⟩ := hq1
      replace hq1 := hq1.symm
      subst hq1
      refine Wp.go rfl ?_
      refine Wp.beqE (b := false) rfl (fun _ => ?_) (fun q => by cases q)
      iterate 4 refine Wp.go rfl ?_
      refine Wp.neN (a := 0) (b := 0) (rfl : _ = nI 0) (rfl : _ = nI 0) (by decide) (by decide) (fun q => absurd q (by decide)) (fun _ => ?_)
      refine Wp.go rfl ?_
      refine Wp.ret rfl ?_
      exact ⟨rfl, hM, ofR.rf⟩
    · obtain ⟨hy, hlq⟩ := hv
      iterate 3 refine Wp.go rfl ?_
      refine Wp.call rfl cqX12_isIn (sX12_isIn_g hx (rfl : _ = nI 0) (by decide)) (fun rv1 s1 hq1 => ?_)
      obtain ⟨rfl, hq1⟩ := hq1
      replace hq1 := hq1.symm
      subst hq1
      refine Wp.go rfl ?_
      refine Wp.beqE (b := false) rfl (fun _ => ?_) (fun q => by cases q)
      iterate 4 refine Wp.go rfl ?_
      refine Wp.neN (a := 0) (b := 0) (rfl : _ = nI 0) (rfl : _ = nI 0) (by decide) (by decide) (fun q => absurd q (by decide)) (fun _ => ?_)
      refine Wp.go rfl ?_
      refine Wp.ret rfl ?_
      exact ⟨rfl, hM, ofR.rf⟩
  · obtain ⟨hx, hlp⟩ := hu
    rcases v with _ | q
    · have hy : y < 0 := hv
      iterate 3 refine Wp.go rfl ?_
      refine Wp.call rfl cqX12_isIn (sX12_isIn_n hx (by omega) (rfl : _ = nI 0) (by omega) (rfl : _ = nI 7) (by omega)) (fun rv1 s1 hq1 => ?_)
      obtain ⟨rfl, hq1⟩ := hq1
      replace hq1 := hq1.symm
      subst hq1
      refine Wp.go rfl ?_
      refine Wp.beqD (p := 0 ≤ p ∧ p ≤ 7) rfl (fun (h1 : ¬ (0 ≤ p ∧ p ≤ 7)) => ?_) (fun (h1 : 0 ≤ p ∧ p ≤ 7) => ?_)
      · iterate 4 refine Wp.go rfl ?_
        refine Wp.neN (a := 0) (b := 0) (rfl : _ = nI 0) (rfl : _ = nI 0) (by decide) (by decide) (fun q => absurd q (by decide)) (fun _ => ?_)
        refine Wp.go rfl ?_
        refine Wp.ret rfl ?_
        exact ⟨rfl, hM, ofR.rf⟩
      · iterate 2 refine Wp.go rfl ?_
        refine Wp.eqI (rfl : _ = y) (rfl : _ = nI 0) (fun q => absurd q (neg_nI hy (by omega))) (fun _ => ?_)
        iterate 3 refine Wp.go rfl ?_
        refine Wp.eqI (rfl : _ = y) (rfl : _ = nI 1) (fun q => absurd q (neg_nI hy (by omega))) (fun _ => ?_)
        iterate 3 refine Wp.go rfl ?_
        refine Wp.eqI (rfl : _ = y) (rfl : _ = nI 4) (fun q => absurd q (neg_nI hy (by omega))) (fun _ => ?_)
        iterate 4 refine Wp.go rfl ?_
        refine Wp.call rfl cqX12_isType (sX12_isType_e hM.1 hk.1 (iE_sub (rfl : _ = y) (rfl : _ = nI 100)) hy) (fun rv2 s2 hq2 => ?_)
        obtain ⟨rfl, hq2⟩ := hq2
        replace hq2 := hq2.symm
        subst hq2
        refine Wp.go rfl ?_
        refine Wp.bneE (b := false) rfl (fun q => by cases q) (fun _ => ?_)
        iterate 3 refine Wp.go rfl ?_
        refine Wp.neI (rfl : _ = y) (rfl : _ = nI 2) (fun _ => ?_) (fun q => absurd q (neg_nI hy (by omega)))
        iterate 4 refine Wp.go rfl ?_
        refine Wp.neN (a := 0) (b := 0) (rfl : _ = nI 0) (rfl : _ = nI 0) (by decide) (by decide) (fun q => absurd q (by decide)) (fun _ => ?_)
        refine Wp.go rfl ?_
        refine Wp.ret rfl ?_
        exact ⟨rfl, hM, ofR.rf⟩
    · obtain ⟨hy, hlq⟩ := hv
      iterate 3 refine Wp.go rfl ?_
      refine Wp.call rfl cqX12_isIn (sX12_isIn_n hx (by omega) (rfl : _ = nI 0) (by omega) (rfl : _ = nI 7) (by omega)) (fun rv1 s1 hq1 => ?_)
      obtain ⟨rfl, hq1⟩ := hq1
      replace hq1 := hq1.symm
      subst hq1
      refine Wp.go rfl ?_
      refine Wp.beqD (p := 0 ≤ p ∧ p ≤ 7) rfl (fun (h1 : ¬ (0 ≤ p ∧ p ≤ 7)) => ?_) (fun (h1 : 0 ≤ p ∧ p ≤ 7) => ?_)
      · iterate 4 refine Wp.go rfl ?_
        refine Wp.neN (a := 0) (b := 0) (rfl : _ = nI 0) (rfl : _ = nI 0) (by decide) (by decide) (fun q => absurd q (by decide)) (fun _ => ?_)
        refine Wp.go rfl ?_
        refine Wp.ret rfl ?_
        have e1 : lcR K (some p) (some q) = (-2, K) := by show (if _ then _ else _) = _; rw [if_neg (by omega), if_neg (by simp [plK, rfK] at *; first | omega | (simp_all; done) | (simp_all; omega))]
        rw [e1]
        exact ⟨rfl, hM, ofR.rf⟩
      · iterate 2 refine Wp.go rfl ?_
        refine Wp.eqN (a := q) (b := 0) hy (rfl : _ = nI 0) (by omega) (by omega) (fun (h3 : q = 0) => ?_) (fun (h3 : ¬ q = 0) => ?_)
        · iterate 5 refine Wp.go rfl ?_
          refine Wp.neN (a := 1) (b := 0) (rfl : _ = nI 1) (rfl : _ = nI 0) (by decide) (by decide) (fun _ => ?_) (fun q => absurd q (by decide))
          iterate 3 refine Wp.go rfl ?_
          refine Wp.neN (a := q) (b := 2) hy (rfl : _ = nI 2) (by omega) (by omega) (fun (h5 : ¬ q = 2) => ?_) (fun (h5 : q = 2) => ?_)
          · iterate 5 refine Wp.go rfl ?_
            refine Wp.call rfl cqX12_lay (sX12_lay170 (L := 8) (c := K.2.2.1) hM.2.2.1 (by decide) (by decide) hk.2.2.2.2.2.2.2.2.2.2.1 hk.2.2.2.2.2.2.2.2.2.2.2.1 (rfl : _ = nI 0) hx (by omega) hy (by have := hk.1.2.1; simp [plK, rfK, thK] at *; omega)) (fun rv2 s2 hq2 => ?_)
            obtain ⟨rfl, hA2, ho2⟩ := hq2
            iterate 2 refine Wp.go rfl ?_
            refine Wp.call rfl cqX12_ends (sX12_ends) (fun rv3 s3 hq3 => ?_)
            obtain ⟨rfl, rfl⟩ := hq3
            refine Wp.ret rfl ?_
            have e1 : lcR K (some p) (some q) = (1, kN (kB K (soA K.2.2.1 p q))) := by show (if _ then _ else _) = _; rw [if_neg (by omega), if_pos ⟨by omega, by simp [plK, rfK] at *; first | omega | (simp_all; done)⟩]
            rw [e1]
            exact ⟨rfl, cMod.enB (K := K) (c := soA K.2.2.1 p q) (hM.1.o ho2) (hM.2.1.o ho2) hA2 (by rw [ho2.2 14 (by decide)]; exact hM.2.2.2.2.1), (ho2.r (by decide)).tr ((mo.f s2 (cs := []) (fs := [13]) (by decide) 0).r (by decide))⟩
          · iterate 4 refine Wp.go rfl ?_
            refine Wp.call rfl cqX12_layLong (sX12_layLong170 (L := 8) (c := K.2.2.1) hM.2.2.1 (by decide) (by decide) hk.2.2.2.2.2.2.2.2.2.2.1 hk.2.2.2.2.2.2.2.2.2.2.2.1 (rfl : _ = nI 0) hx (by first | omega | (exfalso; simp [thK] at *; omega))) (fun rv4 s4 hq4 => ?_)
            obtain ⟨rfl, hA4, ho4⟩ := hq4
            iterate 3 refine Wp.go rfl ?_
            refine Wp.call rfl cqX12_ends (sX12_ends) (fun rv5 s5 hq5 => ?_)
            obtain ⟨rfl, rfl⟩ := hq5
            refine Wp.ret rfl ?_
            have e1 : lcR K (some p) (some q) = (1, kN (kB K (slA K.2.2.1 p))) := by show (if _ then _ else _) = _; rw [if_pos (by first | omega | (exfalso; simp [thK] at *; omega))]
            rw [e1]
            exact ⟨rfl, cMod.enB (K := K) (c := slA K.2.2.1 p) (hM.1.o ho4) (hM.2.1.o ho4) hA4 (by rw [ho4.2 14 (by decide)]; exact hM.2.2.2.2.1), (ho4.r (by decide)).tr ((mo.f s4 (cs := []) (fs := [13]) (by decide) 0).r (by decide))⟩
        · iterate 3 refine Wp.go rfl ?_
          refine Wp.eqN (a := q) (b := 1) hy (rfl : _ = nI 1) (by omega) (by omega) (fun (h6 : q = 1) => ?_) (fun (h6 : ¬ q = 1) => ?_)
          · iterate 5 refine Wp.go rfl ?_
            refine Wp.neN (a := 1) (b := 0) (rfl : _ = nI 1) (rfl : _ = nI 0) (by decide) (by decide) (fun _ => ?_) (fun q => absurd q (by decide))
            iterate 3 refine Wp.go rfl ?_
            refine Wp.neN (a := q) (b := 2) hy (rfl : _ = nI 2) (by omega) (by omega) (fun (h8 : ¬ q = 2) => ?_) (fun (h8 : q = 2) => ?_)
            · iterate 5 refine Wp.go rfl ?_
              refine Wp.call rfl cqX12_lay (sX12_lay170 (L := 8) (c := K.2.2.1) hM.2.2.1 (by decide) (by decide) hk.2.2.2.2.2.2.2.2.2.2.1 hk.2.2.2.2.2.2.2.2.2.2.2.1 (rfl : _ = nI 0) hx (by omega) hy (by have := hk.1.2.1; simp [plK, rfK, thK] at *; omega)) (fun rv6 s6 hq6 => ?_)
              obtain ⟨rfl, hA6, ho6⟩ := hq6
              iterate 2 refine Wp.go rfl ?_
              refine Wp.call rfl cqX12_ends (sX12_ends) (fun rv7 s7 hq7 => ?_)
              obtain ⟨rfl, rfl⟩ := hq7
              refine Wp.ret rfl ?_
              have e1 : lcR K (some p) (some q) = (1, kN (kB K (soA K.2.2.1 p q))) := by show (if _ then _ else _) = _; rw [if_neg (by omega), if_pos ⟨by omega, by simp [plK, rfK] at *; first | omega | (simp_all; done)⟩]
              rw [e1]
              exact ⟨rfl, cMod.enB (K := K) (c := soA K.2.2.1 p q) (hM.1.o ho6) (hM.2.1.o ho6) hA6 (by rw [ho6.2 14 (by decide)]; exact hM.2.2.2.2.1), (ho6.r (by decide)).tr ((mo.f s6 (cs := []) (fs := [13]) (by decide) 0).r (by decide))⟩
            · iterate 4 refine Wp.go rfl ?_
              refine Wp.call rfl cqX12_layLong (sX12_layLong170 (L := 8) (c := K.2.2.1) hM.2.2.1 (by decide) (by decide) hk.2.2.2.2.2.2.2.2.2.2.1 hk.2.2.2.2.2.2.2.2.2.2.2.1 (rfl : _ = nI 0) hx (by first | omega | (exfalso; simp [thK] at *; omega))) (fun rv8 s8 hq8 => ?_)
              obtain ⟨rfl, hA8, ho8⟩ := hq8
              iterate 3 refine Wp.go rfl ?_
              refine Wp.call rfl cqX12_ends (sX12_ends) (fun rv9 s9 hq9 => ?_)
              obtain ⟨rfl, rfl⟩ := hq9
              refine Wp.ret rfl ?_
              have e1 : lcR K (some p) (some q) = (1, kN (kB K (slA K.2.2.1 p))) := by show (if _ then _ else _) = _; rw [if_pos (by first | omega | (exfalso; simp [thK] at *; omega))]
              rw [e1]
              exact ⟨rfl, cMod.enB (K := K) (c := slA K.2.2.1 p) (hM.1.o ho8) (hM.2.1.o ho8) hA8 (by rw [ho8.2 14 (by decide)]; exact hM.2.2.2.2.1), (ho8.r (by decide)).tr ((mo.f s8 (cs := []) (fs := [13]) (by decide) 0).r (by decide))⟩
          · iterate 3 refine Wp.go rfl ?_
            refine Wp.eqN (a := q) (b := 4) hy (rfl : _ = nI 4) (by omega) (by omega) (fun (h9 : q = 4) => ?_) (fun (h9 : ¬ q = 4) => ?_)
            · iterate 5 refine Wp.go rfl ?_
              refine Wp.neN (a := 1) (b := 0) (rfl : _ = nI 1) (rfl : _ = nI 0) (by decide) (by decide) (fun _ => ?_) (fun q => absurd q (by decide))
              iterate 3 refine Wp.go rfl ?_
              refine Wp.neN (a := q) (b := 2) hy (rfl : _ = nI 2) (by omega) (by omega) (fun (h11 : ¬ q = 2) => ?_) (fun (h11 : q = 2) => ?_)
              · iterate 5 refine Wp.go rfl ?_
                refine Wp.call rfl cqX12_lay (sX12_lay170 (L := 8) (c := K.2.2.1) hM.2.2.1 (by decide) (by decide) hk.2.2.2.2.2.2.2.2.2.2.1 hk.2.2.2.2.2.2.2.2.2.2.2.1 (rfl : _ = nI 0) hx (by omega) hy (by have := hk.1.2.1; simp [plK, rfK, thK] at *; omega)) (fun rv10 s10 hq10 => ?_)
                obtain ⟨rfl, hA10, ho10⟩ := hq10
                iterate 2 refine Wp.go rfl ?_
                refine Wp.call rfl cqX12_ends (sX12_ends) (fun rv11 s11 hq11 => ?_)
                obtain ⟨rfl, rfl⟩ := hq11
                refine Wp.ret rfl ?_
                have e1 : lcR K (some p) (some q) = (1, kN (kB K (soA K.2.2.1 p q))) := by show (if _ then _ else _) = _; rw [if_neg (by omega), if_pos ⟨by omega, by simp [plK, rfK] at *; first | omega | (simp_all; done)⟩]
                rw [e1]
                exact ⟨rfl, cMod.enB (K := K) (c := soA K.2.2.1 p q) (hM.1.o ho10) (hM.2.1.o ho10) hA10 (by rw [ho10.2 14 (by decide)]; exact hM.2.2.2.2.1), (ho10.r (by decide)).tr ((mo.f s10 (cs := []) (fs := [13]) (by decide) 0).r (by decide))⟩
              · iterate 4 refine Wp.go rfl ?_
                refine Wp.call rfl cqX12_layLong (sX12_layLong170 (L := 8) (c := K.2.2.1) hM.2.2.1 (by decide) (by decide) hk.2.2.2.2.2.2.2.2.2.2.1 hk.2.2.2.2.2.2.2.2.2.2.2.1 (rfl : _ = nI 0) hx (by first | omega | (exfalso; simp [thK] at *; omega))) (fun rv12 s12 hq12 => ?_)
                obtain ⟨rfl, hA12, ho12⟩ := hq12
                iterate 3 refine Wp.go rfl ?_
                refine Wp.call rfl cqX12_ends (sX12_ends) (fun rv13 s13 hq13 => ?_)
                obtain ⟨rfl, rfl⟩ := hq13
                refine Wp.ret rfl ?_
                have e1 : lcR K (some p) (some q) = (1, kN (kB K (slA K.2.2.1 p))) := by show (if _ then _ else _) = _; rw [if_pos (by first | omega | (exfalso; simp [thK] at *; omega))]
                rw [e1]
                exact ⟨rfl, cMod.enB (K := K) (c := slA K.2.2.1 p) (hM.1.o ho12) (hM.2.1.o ho12) hA12 (by rw [ho12.2 14 (by decide)]; exact hM.2.2.2.2.1), (ho12.r (by decide)).tr ((mo.f s12 (cs := []) (fs := [13]) (by decide) 0).r (by decide))⟩
            · iterate 4 refine Wp.go rfl ?_
              refine Wp.call rfl cqX12_isType (sX12_isType_d hM.1 hk.1 (iE_sub hy (rfl : _ = nI 100)) (by omega)) (fun rv14 s14 hq14 => ?_)
              obtain ⟨rfl, hq14⟩ := hq14
              replace hq14 := hq14.symm
              subst hq14
              refine Wp.go rfl ?_
              refine Wp.bneE rfl (fun (h12 : (thK K.1 q) = true) => ?_) (fun (h12 : (thK K.1 q) = false) => ?_)
              · iterate 5 refine Wp.go rfl ?_
                refine Wp.neN (a := 1) (b := 0) (rfl : _ = nI 1) (rfl : _ = nI 0) (by decide) (by decide) (fun _ => ?_) (fun q => absurd q (by decide))
                iterate 3 refine Wp.go rfl ?_
                refine Wp.neN (a := q) (b := 2) hy (rfl : _ = nI 2) (by omega) (by omega) (fun (h14 : ¬ q = 2) => ?_) (fun (h14 : q = 2) => ?_)
                · iterate 5 refine Wp.go rfl ?_
                  refine Wp.call rfl cqX12_lay (sX12_lay170 (L := 8) (c := K.2.2.1) hM.2.2.1 (by decide) (by decide) hk.2.2.2.2.2.2.2.2.2.2.1 hk.2.2.2.2.2.2.2.2.2.2.2.1 (rfl : _ = nI 0) hx (by omega) hy (by have := hk.1.2.1; simp [plK, rfK, thK] at *; omega)) (fun rv15 s15 hq15 => ?_)
                  obtain ⟨rfl, hA15, ho15⟩ := hq15
                  iterate 2 refine Wp.go rfl ?_
                  refine Wp.call rfl cqX12_ends (sX12_ends) (fun rv16 s16 hq16 => ?_)
                  obtain ⟨rfl, rfl⟩ := hq16
                  refine Wp.ret rfl ?_
                  have e1 : lcR K (some p) (some q) = (1, kN (kB K (soA K.2.2.1 p q))) := by show (if _ then _ else _) = _; rw [if_neg (by omega), if_pos ⟨by omega, by simp [plK, rfK] at *; first | omega | (simp_all; done)⟩]
                  rw [e1]
                  exact ⟨rfl, cMod.enB (K := K) (c := soA K.2.2.1 p q) (hM.1.o ho15) (hM.2.1.o ho15) hA15 (by rw [ho15.2 14 (by decide)]; exact hM.2.2.2.2.1), (ho15.r (by decide)).tr ((mo.f s15 (cs := []) (fs := [13]) (by decide) 0).r (by decide))⟩
                · iterate 4 refine Wp.go rfl ?_
                  refine Wp.call rfl cqX12_layLong (sX12_layLong170 (L := 8) (c := K.2.2.1) hM.2.2.1 (by decide) (by decide) hk.2.2.2.2.2.2.2.2.2.2.1 hk.2.2.2.2.2.2.2.2.2.2.2.1 (rfl : _ = nI 0) hx (by first | omega | (exfalso; simp [thK] at *; omega))) (fun rv17 s17 hq17 => ?_)
                  obtain ⟨rfl, hA17, ho17⟩ := hq17
                  iterate 3 refine Wp.go rfl ?_
                  refine Wp.call rfl cqX12_ends (sX12_ends) (fun rv18 s18 hq18 => ?_)
                  obtain ⟨rfl, rfl⟩ := hq18
                  refine Wp.ret rfl ?_
                  have e1 : lcR K (some p) (some q) = (1, kN (kB K (slA K.2.2.1 p))) := by show (if _ then _ else _) = _; rw [if_pos (by first | omega | (exfalso; simp [thK] at *; omega))]
                  rw [e1]
                  exact ⟨rfl, cMod.enB (K := K) (c := slA K.2.2.1 p) (hM.1.o ho17) (hM.2.1.o ho17) hA17 (by rw [ho17.2 14 (by decide)]; exact hM.2.2.2.2.1), (ho17.r (by decide)).tr ((mo.f s17 (cs := []) (fs := [13]) (by decide) 0).r (by decide))⟩
              · iterate 3 refine Wp.go rfl ?_
                refine Wp.neN (a := q) (b := 2) hy (rfl : _ = nI 2) (by omega) (by omega) (fun (h15 : ¬ q = 2) => ?_) (fun (h15 : q = 2) => ?_)
                · iterate 4 refine Wp.go rfl ?_
                  refine Wp.neN (a := 0) (b := 0) (rfl : _ = nI 0) (rfl : _ = nI 0) (by decide) (by decide) (fun q => absurd q (by decide)) (fun _ => ?_)
                  refine Wp.go rfl ?_
                  refine Wp.ret rfl ?_
                  have e1 : lcR K (some p) (some q) = (-2, K) := by show (if _ then _ else _) = _; rw [if_neg (by omega), if_neg (by simp [plK, rfK] at *; first | omega | (simp_all; done) | (simp_all; omega))]
                  rw [e1]
                  exact ⟨rfl, hM, ofR.rf⟩
                · iterate 3 refine Wp.go rfl ?_
                  refine Wp.geN (a := p) (b := 7) hx (rfl : _ = nI 7) (by omega) (by omega) (fun (h17 : ¬ p < 7) => ?_) (fun (h17 : p < 7) => ?_)
                  · iterate 4 refine Wp.go rfl ?_
                    refine Wp.neN (a := 0) (b := 0) (rfl : _ = nI 0) (rfl : _ = nI 0) (by decide) (by decide) (fun q => absurd q (by decide)) (fun _ => ?_)
                    refine Wp.go rfl ?_
                    refine Wp.ret rfl ?_
                    have e1 : lcR K (some p) (some q) = (-2, K) := by show (if _ then _ else _) = _; rw [if_neg (by omega), if_neg (by simp [plK, rfK] at *; first | omega | (simp_all; done) | (simp_all; omega))]
                    rw [e1]
                    exact ⟨rfl, hM, ofR.rf⟩
                  · iterate 5 refine Wp.go rfl ?_
                    refine Wp.neN (a := 1) (b := 0) (rfl : _ = nI 1) (rfl : _ = nI 0) (by decide) (by decide) (fun _ => ?_) (fun q => absurd q (by decide))
                    iterate 3 refine Wp.go rfl ?_
                    refine Wp.neN (a := q) (b := 2) hy (rfl : _ = nI 2) (by omega) (by omega) (fun (h20 : ¬ q = 2) => ?_) (fun (h20 : q = 2) => ?_)
                    · iterate 5 refine Wp.go rfl ?_
                      refine Wp.call rfl cqX12_lay (sX12_lay170 (L := 8) (c := K.2.2.1) hM.2.2.1 (by decide) (by decide) hk.2.2.2.2.2.2.2.2.2.2.1 hk.2.2.2.2.2.2.2.2.2.2.2.1 (rfl : _ = nI 0) hx (by omega) hy (by have := hk.1.2.1; simp [plK, rfK, thK] at *; omega)) (fun rv19 s19 hq19 => ?_)
                      obtain ⟨rfl, hA19, ho19⟩ := hq19
                      iterate 2 refine Wp.go rfl ?_
                      refine Wp.call rfl cqX12_ends (sX12_ends) (fun rv20 s20 hq20 => ?_)
                      obtain ⟨rfl, rfl⟩ := hq20
                      refine Wp.ret rfl ?_
                      have e1 : lcR K (some p) (some q) = (1, kN (kB K (soA K.2.2.1 p q))) := by show (if _ then _ else _) = _; rw [if_neg (by omega), if_pos ⟨by omega, by simp [plK, rfK] at *; first | omega | (simp_all; done)⟩]
                      rw [e1]
                      exact ⟨rfl, cMod.enB (K := K) (c := soA K.2.2.1 p q) (hM.1.o ho19) (hM.2.1.o ho19) hA19 (by rw [ho19.2 14 (by decide)]; exact hM.2.2.2.2.1), (ho19.r (by decide)).tr ((mo.f s19 (cs := []) (fs := [13]) (by decide) 0).r (by decide))⟩
                    · iterate 4 refine Wp.go rfl ?_
                      refine Wp.call rfl cqX12_layLong (sX12_layLong170 (L := 8) (c := K.2.2.1) hM.2.2.1 (by decide) (by decide) hk.2.2.2.2.2.2.2.2.2.2.1 hk.2.2.2.2.2.2.2.2.2.2.2.1 (rfl : _ = nI 0) hx (by first | omega | (exfalso; simp [thK] at *; omega))) (fun rv21 s21 hq21 => ?_)
                      obtain ⟨rfl, hA21, ho21⟩ := hq21
                      iterate 3 refine Wp.go rfl ?_
                      refine Wp.call rfl cqX12_ends (sX12_ends) (fun rv22 s22 hq22 => ?_)
                      obtain ⟨rfl, rfl⟩ := hq22
                      refine Wp.ret rfl ?_
                      have e1 : lcR K (some p) (some q) = (1, kN (kB K (slA K.2.2.1 p))) := by show (if _ then _ else _) = _; rw [if_pos (by first | omega | (exfalso; simp [thK] at *; omega))]
                      rw [e1]
                      exact ⟨rfl, cMod.enB (K := K) (c := slA K.2.2.1 p) (hM.1.o ho21) (hM.2.1.o ho21) hA21 (by rw [ho21.2 14 (by decide)]; exact hM.2.2.2.2.1), (ho21.r (by decide)).tr ((mo.f s21 (cs := []) (fs := [13]) (by decide) 0).r (by decide))⟩
set_option maxRecDepth 100000 in
theorem sX12_local {K : kS} {σ : mc_G} (hM : cMod K σ) (hk : kOk K) {x y : Int32} {u v : Option Nat} (hu : oV x u) (hv : oV y v) : Wp miX12_local 0 [(0, .inr (some 167)), (1, .inl x), (2, .inl y)] [] σ (fun rv σ' => rv = some (.inl (lcR K u v).1) ∧ cMod (lcR K u v).2 σ' ∧ ofR 167 186 σ σ') := by
  iterate 3 refine Wp.go rfl ?_
  exact (ksX12_local (hM.c 0) hk hu hv ).mono (fun rv σ1 h => ⟨h.1, h.2.1, ((mo.f σ (cs := []) (fs := [0]) (by decide) 0).r (by decide)).tr h.2.2⟩)
set_option maxRecDepth 100000 in
theorem lX12_op {K : kS} {σ : mc_G} (hM : cMod K σ) (hk : kOk K) {x y : Int32} {op : Nat} (hx : x = nI op) {z : mc_V} {v : Option Nat} (hg : nfA K.1 op v = true) : Wp miX12_op 135 [(0, .inr (some 167)), (1, .inl x), (2, .inl y), (3, z)] [] σ (fun rv σ' => rv = some (.inl (opR K y (some op) v).1) ∧ cMod (opR K y (some op) v).2 σ' ∧ ofR 167 186 σ σ') := by
  have hn := hk.2.1.1
  iterate 4 refine Wp.go rfl ?_
  refine Wp.neN (a := pn K.2.1) (b := 30) hM.2.1.1 rfl (by omega) (by decide) (fun h1 => ?_) (fun h1 => ?_)
  · have e1 : opR K y (some op) v = (nI (pn K.2.1), kN (kP K (paO K.2.1 op y))) := by
      show (if _ then _ else _) = _
      rw [if_pos hg, if_pos (by omega)]
    rw [e1]
    have ct := hM.2.1.1
    have cl := clE ct (show pn K.2.1 < 2 ^ 31 by omega)
    iterate 5 refine Wp.go rfl ?_
    refine Wp.go (if_pos ⟨(show 171 < 187 by decide), rfl, inE (n := 30) ct (by omega)⟩) ?_
    iterate 5 refine Wp.go rfl ?_
    refine Wp.go (if_pos ⟨(show 172 < 187 by decide), rfl, inE (n := 30) ct (by omega)⟩) ?_
    iterate 11 refine Wp.go rfl ?_
    let τ3 : mc_G := mc_up (mc_up (mc_up σ 171 (σ 167 5).toNatClampNeg x) 172 (σ 167 5).toNatClampNeg y) 167 5 (σ 167 5 + 1)
    have ho3 : mo [171, 172] [5] σ τ3 := ((mo.a _ (by decide) (by decide) _ _).tr (mo.a _ (by decide) (by decide) _ _)).tr (mo.f _ (by decide) _)
    have q1 : σ 167 5 + 1 = nI (pn K.2.1 + 1) := nE_add ct (rfl : _ = nI 1)
    have hP3 : cMP (paO K.2.1 op y) τ3 := by
      refine ⟨?_, ?_, fun k hk => ⟨?_, ?_⟩, fun j hj => ?_⟩
      · show mc_up _ 167 5 _ 167 5 = _
        rw [upj, if_pos rfl]; exact q1
      · rw [ho3.2 8 (by decide)]; exact hM.2.1.2.1
      · show mc_up _ 167 5 _ 171 k = nI (va_up (po K.2.1) (pn K.2.1) op k)
        have hk' : k < pn K.2.1 + 1 := hk
        rw [mc_upn _ _ _ (by decide), mc_upn _ _ _ (by decide), upj, cl]
        unfold va_up
        by_cases e : k = pn K.2.1
        · rw [if_pos e, if_pos e]; exact hx
        · rw [if_neg e, if_neg e]; exact (hM.2.1.2.2.1 k (by omega)).1
      · show mc_up _ 167 5 _ 172 k = va_up (pa K.2.1) (pn K.2.1) y k
        have hk' : k < pn K.2.1 + 1 := hk
        rw [mc_upn _ _ _ (by decide), upj, cl]
        unfold va_up
        by_cases e : k = pn K.2.1
        · rw [if_pos e, if_pos e]
        · rw [if_neg e, if_neg e, mc_upn _ _ _ (by decide)]; exact (hM.2.1.2.2.1 k (by omega)).2
      · rw [ho3.1 173 (by decide) (by decide), ho3.1 174 (by decide) (by decide), ho3.1 175 (by decide) (by decide), ho3.1 176 (by decide) (by decide)]
        exact hM.2.1.2.2.2 j hj
    refine Wp.call rfl cqX12_ends sX12_ends (fun rv1 s1 hq1 => ?_)
    obtain ⟨rfl, rfl⟩ := hq1
    refine Wp.ret rfl ?_
    have hz : τ3 167 5 - 1 = nI (pn K.2.1) := nE_sub hP3.1 (rfl : _ = nI 1) (show 1 ≤ pn K.2.1 + 1 by omega)
    refine ⟨congrArg (fun q => some (Sum.inl q)) hz, cMod.enP (K := K) (P := paO K.2.1 op y) (σ := τ3) (hM.1.o ho3) hP3 (hM.2.2.1.o ho3) (by rw [ho3.2 14 (by decide)]; exact hM.2.2.2.2.1), (ho3.r (by decide)).tr ((mo.f τ3 (cs := []) (fs := [13]) (by decide) 0).r (by decide))⟩
  · have e1 : opR K y (some op) v = (-3, K) := by
      show (if _ then _ else _) = _
      rw [if_pos hg, if_neg (by omega)]
    rw [e1]
    refine Wp.go rfl ?_
    refine Wp.ret rfl ?_
    exact ⟨rfl, hM, ofR.rf⟩
set_option maxRecDepth 100000 in
theorem ksX12_op {K : kS} {σ : mc_G} (hM : cMod K σ) (hk : kOk K) {x y : Int32} {u v : Option Nat} (hu : oV x u) (hv : oV y v) : Wp miX12_op 5 [(0, .inr (some 167)), (1, .inl x), (2, .inl y)] [] σ (fun rv σ' => rv = some (.inl (opR K y u v).1) ∧ cMod (opR K y u v).2 σ' ∧ ofR 167 186 σ σ') := by
  have h8 := hk.1.2.1
  rcases u with _ | p
  · have hx : x < 0 := hu
    rcases v with _ | q
    · have hy : y < 0 := hv
      iterate 3 refine Wp.go rfl ?_
      refine Wp.call rfl cqX12_isIn (sX12_isIn_g hx (rfl : _ = nI 0) (by decide)) (fun rv1 s1 hq1 => ?_)
      obtain ⟨rfl, hq1⟩ := hq1
      replace hq1 := hq1.symm
      subst hq1
      iterate 4 refine Wp.go rfl ?_
      refine Wp.eqI (rfl : _ = x) (rfl : _ = nI 3) (fun q => absurd q (neg_nI hx (by omega))) (fun _ => ?_)
      iterate 3 refine Wp.go rfl ?_
      refine Wp.neI (rfl : _ = x) (rfl : _ = nI 5) (fun _ => ?_) (fun q => absurd q (neg_nI hx (by omega)))
      iterate 3 refine Wp.go rfl ?_
      refine Wp.eqI (rfl : _ = x) (rfl : _ = nI 4) (fun q => absurd q (neg_nI hx (by omega))) (fun _ => ?_)
      iterate 3 refine Wp.go rfl ?_
      refine Wp.neI (rfl : _ = x) (rfl : _ = nI 6) (fun _ => ?_) (fun q => absurd q (neg_nI hx (by omega)))
      iterate 3 refine Wp.go rfl ?_
      refine Wp.neI (rfl : _ = x) (rfl : _ = nI 12) (fun _ => ?_) (fun q => absurd q (neg_nI hx (by omega)))
      iterate 3 refine Wp.go rfl ?_
      refine Wp.eqI (rfl : _ = x) (rfl : _ = nI 14) (fun q => absurd q (neg_nI hx (by omega))) (fun _ => ?_)
      iterate 3 refine Wp.go rfl ?_
      refine Wp.neI (rfl : _ = x) (rfl : _ = nI 15) (fun _ => ?_) (fun q => absurd q (neg_nI hx (by omega)))
      iterate 3 refine Wp.go rfl ?_
      refine Wp.call rfl cqX12_isIn (sX12_isIn_g hx (rfl : _ = nI 16) (by decide)) (fun rv2 s2 hq2 => ?_)
      obtain ⟨rfl, hq2⟩ := hq2
      replace hq2 := hq2.symm
      subst hq2
      refine Wp.go rfl ?_
      refine Wp.beqE (b := false) rfl (fun _ => ?_) (fun q => by cases q)
      iterate 2 refine Wp.go rfl ?_
      refine Wp.bneE (b := false) rfl (fun q => by cases q) (fun _ => ?_)
      refine Wp.go rfl ?_
      refine Wp.ret rfl ?_
      exact ⟨rfl, hM, ofR.rf⟩
    · obtain ⟨hy, hlq⟩ := hv
      iterate 3 refine Wp.go rfl ?_
      refine Wp.call rfl cqX12_isIn (sX12_isIn_g hx (rfl : _ = nI 0) (by decide)) (fun rv1 s1 hq1 => ?_)
      obtain ⟨rfl, hq1⟩ := hq1
      replace hq1 := hq1.symm
      subst hq1
      iterate 4 refine Wp.go rfl ?_
      refine Wp.eqI (rfl : _ = x) (rfl : _ = nI 3) (fun q => absurd q (neg_nI hx (by omega))) (fun _ => ?_)
      iterate 3 refine Wp.go rfl ?_
      refine Wp.neI (rfl : _ = x) (rfl : _ = nI 5) (fun _ => ?_) (fun q => absurd q (neg_nI hx (by omega)))
      iterate 3 refine Wp.go rfl ?_
      refine Wp.eqI (rfl : _ = x) (rfl : _ = nI 4) (fun q => absurd q (neg_nI hx (by omega))) (fun _ => ?_)
      iterate 3 refine Wp.go rfl ?_
      refine Wp.neI (rfl : _ = x) (rfl : _ = nI 6) (fun _ => ?_) (fun q => absurd q (neg_nI hx (by omega)))
      iterate 3 refine Wp.go rfl ?_
      refine Wp.neI (rfl : _ = x) (rfl : _ = nI 12) (fun _ => ?_) (fun q => absurd q (neg_nI hx (by omega)))
      iterate 3 refine Wp.go rfl ?_
      refine Wp.eqI (rfl : _ = x) (rfl : _ = nI 14) (fun q => absurd q (neg_nI hx (by omega))) (fun _ => ?_)
      iterate 3 refine Wp.go rfl ?_
      refine Wp.neI (rfl : _ = x) (rfl : _ = nI 15) (fun _ => ?_) (fun q => absurd q (neg_nI hx (by omega)))
      iterate 3 refine Wp.go rfl ?_
      refine Wp.call rfl cqX12_isIn (sX12_isIn_g hx (rfl : _ = nI 16) (by decide)) (fun rv2 s2 hq2 => ?_)
      obtain ⟨rfl, hq2⟩ := hq2
      replace hq2 := hq2.symm
      subst hq2
      refine Wp.go rfl ?_
      refine Wp.beqE (b := false) rfl (fun _ => ?_) (fun q => by cases q)
      iterate 2 refine Wp.go rfl ?_
      refine Wp.bneE (b := false) rfl (fun q => by cases q) (fun _ => ?_)
      refine Wp.go rfl ?_
      refine Wp.ret rfl ?_
      exact ⟨rfl, hM, ofR.rf⟩
  · obtain ⟨hx, hlp⟩ := hu
    rcases v with _ | q
    · have hy : y < 0 := hv
      iterate 3 refine Wp.go rfl ?_
      refine Wp.call rfl cqX12_isIn (sX12_isIn_n hx (by omega) (rfl : _ = nI 0) (by omega) (rfl : _ = nI 20) (by omega)) (fun rv1 s1 hq1 => ?_)
      obtain ⟨rfl, hq1⟩ := hq1
      replace hq1 := hq1.symm
      subst hq1
      iterate 4 refine Wp.go rfl ?_
      refine Wp.eqN (a := p) (b := 3) hx (rfl : _ = nI 3) (by omega) (by omega) (fun (h1 : p = 3) => ?_) (fun (h1 : ¬ p = 3) => ?_)
      · iterate 3 refine Wp.go rfl ?_
        refine Wp.call rfl cqX12_isIn (sX12_isIn_g hy (rfl : _ = nI 0) (by decide)) (fun rv2 s2 hq2 => ?_)
        obtain ⟨rfl, hq2⟩ := hq2
        replace hq2 := hq2.symm
        subst hq2
        iterate 4 refine Wp.go rfl ?_
        refine Wp.bneE (b := false) rfl (fun q => by cases q) (fun _ => ?_)
        refine Wp.go rfl ?_
        refine Wp.ret rfl ?_
        have e0 : nfA K.1 p none = false := by unfold nfA; first | (simp [inU, *]; done) | (rw [if_neg (by omega), if_neg (by omega), if_neg (by omega), if_neg (by omega), if_pos (by omega)]; simp [inU]; omega) | (simp [inU] at *; omega) | (simp_all [inU]; done) | (simp_all [inU]; omega)
        have e1 : opR K y (some p) none = (-2, K) := by show (if _ then _ else _) = _; rw [if_neg (by rw [e0]; decide)]
        rw [e1]
        exact ⟨rfl, hM, ofR.rf⟩
      · iterate 3 refine Wp.go rfl ?_
        refine Wp.neN (a := p) (b := 5) hx (rfl : _ = nI 5) (by omega) (by omega) (fun (h3 : ¬ p = 5) => ?_) (fun (h3 : p = 5) => ?_)
        · iterate 3 refine Wp.go rfl ?_
          refine Wp.eqN (a := p) (b := 4) hx (rfl : _ = nI 4) (by omega) (by omega) (fun (h4 : p = 4) => ?_) (fun (h4 : ¬ p = 4) => ?_)
          · iterate 3 refine Wp.go rfl ?_
            refine Wp.call rfl cqX12_isIn (sX12_isIn_g hy (rfl : _ = nI 0) (by decide)) (fun rv3 s3 hq3 => ?_)
            obtain ⟨rfl, hq3⟩ := hq3
            replace hq3 := hq3.symm
            subst hq3
            iterate 4 refine Wp.go rfl ?_
            refine Wp.bneE (b := false) rfl (fun q => by cases q) (fun _ => ?_)
            refine Wp.go rfl ?_
            refine Wp.ret rfl ?_
            have e0 : nfA K.1 p none = false := by unfold nfA; first | (simp [inU, *]; done) | (rw [if_neg (by omega), if_neg (by omega), if_neg (by omega), if_neg (by omega), if_pos (by omega)]; simp [inU]; omega) | (simp [inU] at *; omega) | (simp_all [inU]; done) | (simp_all [inU]; omega)
            have e1 : opR K y (some p) none = (-2, K) := by show (if _ then _ else _) = _; rw [if_neg (by rw [e0]; decide)]
            rw [e1]
            exact ⟨rfl, hM, ofR.rf⟩
          · iterate 3 refine Wp.go rfl ?_
            refine Wp.neN (a := p) (b := 6) hx (rfl : _ = nI 6) (by omega) (by omega) (fun (h6 : ¬ p = 6) => ?_) (fun (h6 : p = 6) => ?_)
            · iterate 3 refine Wp.go rfl ?_
              refine Wp.neN (a := p) (b := 12) hx (rfl : _ = nI 12) (by omega) (by omega) (fun (h7 : ¬ p = 12) => ?_) (fun (h7 : p = 12) => ?_)
              · iterate 3 refine Wp.go rfl ?_
                refine Wp.eqN (a := p) (b := 14) hx (rfl : _ = nI 14) (by omega) (by omega) (fun (h8 : p = 14) => ?_) (fun (h8 : ¬ p = 14) => ?_)
                · iterate 2 refine Wp.go rfl ?_
                  refine Wp.call rfl cqX12_isType (sX12_isType_g hM.1 hk.1 hy) (fun rv4 s4 hq4 => ?_)
                  obtain ⟨rfl, hq4⟩ := hq4
                  replace hq4 := hq4.symm
                  subst hq4
                  iterate 4 refine Wp.go rfl ?_
                  refine Wp.bneE (b := false) rfl (fun q => by cases q) (fun _ => ?_)
                  refine Wp.go rfl ?_
                  refine Wp.ret rfl ?_
                  have e0 : nfA K.1 p none = false := by unfold nfA; first | (simp [inU, *]; done) | (rw [if_neg (by omega), if_neg (by omega), if_neg (by omega), if_neg (by omega), if_pos (by omega)]; simp [inU]; omega) | (simp [inU] at *; omega) | (simp_all [inU]; done) | (simp_all [inU]; omega)
                  have e1 : opR K y (some p) none = (-2, K) := by show (if _ then _ else _) = _; rw [if_neg (by rw [e0]; decide)]
                  rw [e1]
                  exact ⟨rfl, hM, ofR.rf⟩
                · iterate 3 refine Wp.go rfl ?_
                  refine Wp.neN (a := p) (b := 15) hx (rfl : _ = nI 15) (by omega) (by omega) (fun (h10 : ¬ p = 15) => ?_) (fun (h10 : p = 15) => ?_)
                  · iterate 3 refine Wp.go rfl ?_
                    refine Wp.call rfl cqX12_isIn (sX12_isIn_n hx (by omega) (rfl : _ = nI 16) (by omega) (rfl : _ = nI 18) (by omega)) (fun rv5 s5 hq5 => ?_)
                    obtain ⟨rfl, hq5⟩ := hq5
                    replace hq5 := hq5.symm
                    subst hq5
                    refine Wp.go rfl ?_
                    refine Wp.beqD (p := 16 ≤ p ∧ p ≤ 18) rfl (fun (h11 : ¬ (16 ≤ p ∧ p ≤ 18)) => ?_) (fun (h11 : 16 ≤ p ∧ p ≤ 18) => ?_)
                    · iterate 2 refine Wp.go rfl ?_
                      refine Wp.bneD (p := 0 ≤ p ∧ p ≤ 20) rfl (fun (h12 : 0 ≤ p ∧ p ≤ 20) => ?_) (fun (h12 : ¬ (0 ≤ p ∧ p ≤ 20)) => ?_)
                      · have e0 : nfA K.1 p none = true := by unfold nfA; first | (simp [inU, *]; done) | (rw [if_neg (by omega), if_neg (by omega), if_neg (by omega), if_neg (by omega), if_pos (by omega)]; simp [inU]; omega) | (simp [inU] at *; omega) | (simp_all [inU]; done) | (simp_all [inU]; omega)
                        refine Wp.lo (lo := [(0, .inr (some 167)), (1, .inl _), (2, .inl _), (3, .inl _)]) ⟨rfl, rfl, rfl, rfl, trivial⟩ ?_
                        exact lX12_op hM hk hx e0
                      · refine Wp.go rfl ?_
                        refine Wp.ret rfl ?_
                        have e0 : nfA K.1 p none = false := by unfold nfA; first | (simp [inU, *]; done) | (rw [if_neg (by omega), if_neg (by omega), if_neg (by omega), if_neg (by omega), if_pos (by omega)]; simp [inU]; omega) | (simp [inU] at *; omega) | (simp_all [inU]; done) | (simp_all [inU]; omega)
                        have e1 : opR K y (some p) none = (-2, K) := by show (if _ then _ else _) = _; rw [if_neg (by rw [e0]; decide)]
                        rw [e1]
                        exact ⟨rfl, hM, ofR.rf⟩
                    · iterate 3 refine Wp.go rfl ?_
                      refine Wp.call rfl cqX12_isIn (sX12_isIn_g hy (rfl : _ = nI 0) (by decide)) (fun rv6 s6 hq6 => ?_)
                      obtain ⟨rfl, hq6⟩ := hq6
                      replace hq6 := hq6.symm
                      subst hq6
                      iterate 3 refine Wp.go rfl ?_
                      refine Wp.bneE (b := false) rfl (fun q => by cases q) (fun _ => ?_)
                      refine Wp.go rfl ?_
                      refine Wp.ret rfl ?_
                      have e0 : nfA K.1 p none = false := by unfold nfA; first | (simp [inU, *]; done) | (rw [if_neg (by omega), if_neg (by omega), if_neg (by omega), if_neg (by omega), if_pos (by omega)]; simp [inU]; omega) | (simp [inU] at *; omega) | (simp_all [inU]; done) | (simp_all [inU]; omega)
                      have e1 : opR K y (some p) none = (-2, K) := by show (if _ then _ else _) = _; rw [if_neg (by rw [e0]; decide)]
                      rw [e1]
                      exact ⟨rfl, hM, ofR.rf⟩
                  · iterate 2 refine Wp.go rfl ?_
                    refine Wp.call rfl cqX12_isType (sX12_isType_g hM.1 hk.1 hy) (fun rv7 s7 hq7 => ?_)
                    obtain ⟨rfl, hq7⟩ := hq7
                    replace hq7 := hq7.symm
                    subst hq7
                    iterate 4 refine Wp.go rfl ?_
                    refine Wp.bneE (b := false) rfl (fun q => by cases q) (fun _ => ?_)
                    refine Wp.go rfl ?_
                    refine Wp.ret rfl ?_
                    have e0 : nfA K.1 p none = false := by unfold nfA; first | (simp [inU, *]; done) | (rw [if_neg (by omega), if_neg (by omega), if_neg (by omega), if_neg (by omega), if_pos (by omega)]; simp [inU]; omega) | (simp [inU] at *; omega) | (simp_all [inU]; done) | (simp_all [inU]; omega)
                    have e1 : opR K y (some p) none = (-2, K) := by show (if _ then _ else _) = _; rw [if_neg (by rw [e0]; decide)]
                    rw [e1]
                    exact ⟨rfl, hM, ofR.rf⟩
              · iterate 2 refine Wp.go rfl ?_
                refine Wp.call rfl cqX12_isType (sX12_isType_g hM.1 hk.1 hy) (fun rv8 s8 hq8 => ?_)
                obtain ⟨rfl, hq8⟩ := hq8
                replace hq8 := hq8.symm
                subst hq8
                refine Wp.go rfl ?_
                refine Wp.beqE (b := false) rfl (fun _ => ?_) (fun q => by cases q)
                iterate 5 refine Wp.go rfl ?_
                refine Wp.neN (a := 0) (b := 0) (rfl : _ = nI 0) (rfl : _ = nI 0) (by decide) (by decide) (fun q => absurd q (by decide)) (fun _ => ?_)
                refine Wp.go rfl ?_
                refine Wp.ret rfl ?_
                have e0 : nfA K.1 p none = false := by unfold nfA; first | (simp [inU, *]; done) | (rw [if_neg (by omega), if_neg (by omega), if_neg (by omega), if_neg (by omega), if_pos (by omega)]; simp [inU]; omega) | (simp [inU] at *; omega) | (simp_all [inU]; done) | (simp_all [inU]; omega)
                have e1 : opR K y (some p) none = (-2, K) := by show (if _ then _ else _) = _; rw [if_neg (by rw [e0]; decide)]
                rw [e1]
                exact ⟨rfl, hM, ofR.rf⟩
            · iterate 3 refine Wp.go rfl ?_
              refine Wp.call rfl cqX12_isIn (sX12_isIn_g hy (rfl : _ = nI 0) (by decide)) (fun rv9 s9 hq9 => ?_)
              obtain ⟨rfl, hq9⟩ := hq9
              replace hq9 := hq9.symm
              subst hq9
              iterate 4 refine Wp.go rfl ?_
              refine Wp.bneE (b := false) rfl (fun q => by cases q) (fun _ => ?_)
              refine Wp.go rfl ?_
              refine Wp.ret rfl ?_
              have e0 : nfA K.1 p none = false := by unfold nfA; first | (simp [inU, *]; done) | (rw [if_neg (by omega), if_neg (by omega), if_neg (by omega), if_neg (by omega), if_pos (by omega)]; simp [inU]; omega) | (simp [inU] at *; omega) | (simp_all [inU]; done) | (simp_all [inU]; omega)
              have e1 : opR K y (some p) none = (-2, K) := by show (if _ then _ else _) = _; rw [if_neg (by rw [e0]; decide)]
              rw [e1]
              exact ⟨rfl, hM, ofR.rf⟩
        · iterate 3 refine Wp.go rfl ?_
          refine Wp.call rfl cqX12_isIn (sX12_isIn_g hy (rfl : _ = nI 0) (by decide)) (fun rv10 s10 hq10 => ?_)
          obtain ⟨rfl, hq10⟩ := hq10
          replace hq10 := hq10.symm
          subst hq10
          iterate 4 refine Wp.go rfl ?_
          refine Wp.bneE (b := false) rfl (fun q => by cases q) (fun _ => ?_)
          refine Wp.go rfl ?_
          refine Wp.ret rfl ?_
          have e0 : nfA K.1 p none = false := by unfold nfA; first | (simp [inU, *]; done) | (rw [if_neg (by omega), if_neg (by omega), if_neg (by omega), if_neg (by omega), if_pos (by omega)]; simp [inU]; omega) | (simp [inU] at *; omega) | (simp_all [inU]; done) | (simp_all [inU]; omega)
          have e1 : opR K y (some p) none = (-2, K) := by show (if _ then _ else _) = _; rw [if_neg (by rw [e0]; decide)]
          rw [e1]
          exact ⟨rfl, hM, ofR.rf⟩
    · obtain ⟨hy, hlq⟩ := hv
      iterate 3 refine Wp.go rfl ?_
      refine Wp.call rfl cqX12_isIn (sX12_isIn_n hx (by omega) (rfl : _ = nI 0) (by omega) (rfl : _ = nI 20) (by omega)) (fun rv1 s1 hq1 => ?_)
      obtain ⟨rfl, hq1⟩ := hq1
      replace hq1 := hq1.symm
      subst hq1
      iterate 4 refine Wp.go rfl ?_
      refine Wp.eqN (a := p) (b := 3) hx (rfl : _ = nI 3) (by omega) (by omega) (fun (h1 : p = 3) => ?_) (fun (h1 : ¬ p = 3) => ?_)
      · iterate 3 refine Wp.go rfl ?_
        refine Wp.call rfl cqX12_isIn (sX12_isIn_n hy (by omega) (rfl : _ = nI 0) (by omega) (rfl : _ = nI 7) (by omega)) (fun rv2 s2 hq2 => ?_)
        obtain ⟨rfl, hq2⟩ := hq2
        replace hq2 := hq2.symm
        subst hq2
        iterate 4 refine Wp.go rfl ?_
        refine Wp.bneD (p := 0 ≤ q ∧ q ≤ 7) rfl (fun (h2 : 0 ≤ q ∧ q ≤ 7) => ?_) (fun (h2 : ¬ (0 ≤ q ∧ q ≤ 7)) => ?_)
        · have e0 : nfA K.1 p (some q) = true := by unfold nfA; first | (simp [inU, *]; done) | (rw [if_neg (by omega), if_neg (by omega), if_neg (by omega), if_neg (by omega), if_pos (by omega)]; simp [inU]; omega) | (simp [inU] at *; omega) | (simp_all [inU]; done) | (simp_all [inU]; omega)
          refine Wp.lo (lo := [(0, .inr (some 167)), (1, .inl _), (2, .inl _), (3, .inl _)]) ⟨rfl, rfl, rfl, rfl, trivial⟩ ?_
          exact lX12_op hM hk hx e0
        · refine Wp.go rfl ?_
          refine Wp.ret rfl ?_
          have e0 : nfA K.1 p (some q) = false := by unfold nfA; first | (simp [inU, *]; done) | (rw [if_neg (by omega), if_neg (by omega), if_neg (by omega), if_neg (by omega), if_pos (by omega)]; simp [inU]; omega) | (simp [inU] at *; omega) | (simp_all [inU]; done) | (simp_all [inU]; omega)
          have e1 : opR K y (some p) (some q) = (-2, K) := by show (if _ then _ else _) = _; rw [if_neg (by rw [e0]; decide)]
          rw [e1]
          exact ⟨rfl, hM, ofR.rf⟩
      · iterate 3 refine Wp.go rfl ?_
        refine Wp.neN (a := p) (b := 5) hx (rfl : _ = nI 5) (by omega) (by omega) (fun (h3 : ¬ p = 5) => ?_) (fun (h3 : p = 5) => ?_)
        · iterate 3 refine Wp.go rfl ?_
          refine Wp.eqN (a := p) (b := 4) hx (rfl : _ = nI 4) (by omega) (by omega) (fun (h4 : p = 4) => ?_) (fun (h4 : ¬ p = 4) => ?_)
          · iterate 3 refine Wp.go rfl ?_
            refine Wp.call rfl cqX12_isIn (sX12_isIn_n hy (by omega) (rfl : _ = nI 0) (by omega) (rfl : _ = nI 6) (by omega)) (fun rv3 s3 hq3 => ?_)
            obtain ⟨rfl, hq3⟩ := hq3
            replace hq3 := hq3.symm
            subst hq3
            iterate 4 refine Wp.go rfl ?_
            refine Wp.bneD (p := 0 ≤ q ∧ q ≤ 6) rfl (fun (h5 : 0 ≤ q ∧ q ≤ 6) => ?_) (fun (h5 : ¬ (0 ≤ q ∧ q ≤ 6)) => ?_)
            · have e0 : nfA K.1 p (some q) = true := by unfold nfA; first | (simp [inU, *]; done) | (rw [if_neg (by omega), if_neg (by omega), if_neg (by omega), if_neg (by omega), if_pos (by omega)]; simp [inU]; omega) | (simp [inU] at *; omega) | (simp_all [inU]; done) | (simp_all [inU]; omega)
              refine Wp.lo (lo := [(0, .inr (some 167)), (1, .inl _), (2, .inl _), (3, .inl _)]) ⟨rfl, rfl, rfl, rfl, trivial⟩ ?_
              exact lX12_op hM hk hx e0
            · refine Wp.go rfl ?_
              refine Wp.ret rfl ?_
              have e0 : nfA K.1 p (some q) = false := by unfold nfA; first | (simp [inU, *]; done) | (rw [if_neg (by omega), if_neg (by omega), if_neg (by omega), if_neg (by omega), if_pos (by omega)]; simp [inU]; omega) | (simp [inU] at *; omega) | (simp_all [inU]; done) | (simp_all [inU]; omega)
              have e1 : opR K y (some p) (some q) = (-2, K) := by show (if _ then _ else _) = _; rw [if_neg (by rw [e0]; decide)]
              rw [e1]
              exact ⟨rfl, hM, ofR.rf⟩
          · iterate 3 refine Wp.go rfl ?_
            refine Wp.neN (a := p) (b := 6) hx (rfl : _ = nI 6) (by omega) (by omega) (fun (h6 : ¬ p = 6) => ?_) (fun (h6 : p = 6) => ?_)
            · iterate 3 refine Wp.go rfl ?_
              refine Wp.neN (a := p) (b := 12) hx (rfl : _ = nI 12) (by omega) (by omega) (fun (h7 : ¬ p = 12) => ?_) (fun (h7 : p = 12) => ?_)
              · iterate 3 refine Wp.go rfl ?_
                refine Wp.eqN (a := p) (b := 14) hx (rfl : _ = nI 14) (by omega) (by omega) (fun (h8 : p = 14) => ?_) (fun (h8 : ¬ p = 14) => ?_)
                · iterate 2 refine Wp.go rfl ?_
                  refine Wp.call rfl cqX12_isType (sX12_isType hM.1 hk.1 hy (by omega)) (fun rv4 s4 hq4 => ?_)
                  obtain ⟨rfl, hq4⟩ := hq4
                  replace hq4 := hq4.symm
                  subst hq4
                  iterate 4 refine Wp.go rfl ?_
                  refine Wp.bneD (p := q < tc K.1) rfl (fun (h9 : q < tc K.1) => ?_) (fun (h9 : ¬ (q < tc K.1)) => ?_)
                  · have e0 : nfA K.1 p (some q) = true := by unfold nfA; first | (simp [inU, *]; done) | (rw [if_neg (by omega), if_neg (by omega), if_neg (by omega), if_neg (by omega), if_pos (by omega)]; simp [inU]; omega) | (simp [inU] at *; omega) | (simp_all [inU]; done) | (simp_all [inU]; omega)
                    refine Wp.lo (lo := [(0, .inr (some 167)), (1, .inl _), (2, .inl _), (3, .inl _)]) ⟨rfl, rfl, rfl, rfl, trivial⟩ ?_
                    exact lX12_op hM hk hx e0
                  · refine Wp.go rfl ?_
                    refine Wp.ret rfl ?_
                    have e0 : nfA K.1 p (some q) = false := by unfold nfA; first | (simp [inU, *]; done) | (rw [if_neg (by omega), if_neg (by omega), if_neg (by omega), if_neg (by omega), if_pos (by omega)]; simp [inU]; omega) | (simp [inU] at *; omega) | (simp_all [inU]; done) | (simp_all [inU]; omega)
                    have e1 : opR K y (some p) (some q) = (-2, K) := by show (if _ then _ else _) = _; rw [if_neg (by rw [e0]; decide)]
                    rw [e1]
                    exact ⟨rfl, hM, ofR.rf⟩
                · iterate 3 refine Wp.go rfl ?_
                  refine Wp.neN (a := p) (b := 15) hx (rfl : _ = nI 15) (by omega) (by omega) (fun (h10 : ¬ p = 15) => ?_) (fun (h10 : p = 15) => ?_)
                  · iterate 3 refine Wp.go rfl ?_
                    refine Wp.call rfl cqX12_isIn (sX12_isIn_n hx (by omega) (rfl : _ = nI 16) (by omega) (rfl : _ = nI 18) (by omega)) (fun rv5 s5 hq5 => ?_)
                    obtain ⟨rfl, hq5⟩ := hq5
                    replace hq5 := hq5.symm
                    subst hq5
                    refine Wp.go rfl ?_
                    refine Wp.beqD (p := 16 ≤ p ∧ p ≤ 18) rfl (fun (h11 : ¬ (16 ≤ p ∧ p ≤ 18)) => ?_) (fun (h11 : 16 ≤ p ∧ p ≤ 18) => ?_)
                    · iterate 2 refine Wp.go rfl ?_
                      refine Wp.bneD (p := 0 ≤ p ∧ p ≤ 20) rfl (fun (h12 : 0 ≤ p ∧ p ≤ 20) => ?_) (fun (h12 : ¬ (0 ≤ p ∧ p ≤ 20)) => ?_)
                      · have e0 : nfA K.1 p (some q) = true := by unfold nfA; first | (simp [inU, *]; done) | (rw [if_neg (by omega), if_neg (by omega), if_neg (by omega), if_neg (by omega), if_pos (by omega)]; simp [inU]; omega) | (simp [inU] at *; omega) | (simp_all [inU]; done) | (simp_all [inU]; omega)
                        refine Wp.lo (lo := [(0, .inr (some 167)), (1, .inl _), (2, .inl _), (3, .inl _)]) ⟨rfl, rfl, rfl, rfl, trivial⟩ ?_
                        exact lX12_op hM hk hx e0
                      · refine Wp.go rfl ?_
                        refine Wp.ret rfl ?_
                        have e0 : nfA K.1 p (some q) = false := by unfold nfA; first | (simp [inU, *]; done) | (rw [if_neg (by omega), if_neg (by omega), if_neg (by omega), if_neg (by omega), if_pos (by omega)]; simp [inU]; omega) | (simp [inU] at *; omega) | (simp_all [inU]; done) | (simp_all [inU]; omega)
                        have e1 : opR K y (some p) (some q) = (-2, K) := by show (if _ then _ else _) = _; rw [if_neg (by rw [e0]; decide)]
                        rw [e1]
                        exact ⟨rfl, hM, ofR.rf⟩
                    · iterate 3 refine Wp.go rfl ?_
                      refine Wp.call rfl cqX12_isIn (sX12_isIn_n hy (by omega) (rfl : _ = nI 0) (by omega) (rfl : _ = nI 29) (by omega)) (fun rv6 s6 hq6 => ?_)
                      obtain ⟨rfl, hq6⟩ := hq6
                      replace hq6 := hq6.symm
                      subst hq6
                      iterate 3 refine Wp.go rfl ?_
                      refine Wp.bneD (p := 0 ≤ q ∧ q ≤ 29) rfl (fun (h13 : 0 ≤ q ∧ q ≤ 29) => ?_) (fun (h13 : ¬ (0 ≤ q ∧ q ≤ 29)) => ?_)
                      · have e0 : nfA K.1 p (some q) = true := by unfold nfA; first | (simp [inU, *]; done) | (rw [if_neg (by omega), if_neg (by omega), if_neg (by omega), if_neg (by omega), if_pos (by omega)]; simp [inU]; omega) | (simp [inU] at *; omega) | (simp_all [inU]; done) | (simp_all [inU]; omega)
                        refine Wp.lo (lo := [(0, .inr (some 167)), (1, .inl _), (2, .inl _), (3, .inl _)]) ⟨rfl, rfl, rfl, rfl, trivial⟩ ?_
                        exact lX12_op hM hk hx e0
                      · refine Wp.go rfl ?_
                        refine Wp.ret rfl ?_
                        have e0 : nfA K.1 p (some q) = false := by unfold nfA; first | (simp [inU, *]; done) | (rw [if_neg (by omega), if_neg (by omega), if_neg (by omega), if_neg (by omega), if_pos (by omega)]; simp [inU]; omega) | (simp [inU] at *; omega) | (simp_all [inU]; done) | (simp_all [inU]; omega)
                        have e1 : opR K y (some p) (some q) = (-2, K) := by show (if _ then _ else _) = _; rw [if_neg (by rw [e0]; decide)]
                        rw [e1]
                        exact ⟨rfl, hM, ofR.rf⟩
                  · iterate 2 refine Wp.go rfl ?_
                    refine Wp.call rfl cqX12_isType (sX12_isType hM.1 hk.1 hy (by omega)) (fun rv7 s7 hq7 => ?_)
                    obtain ⟨rfl, hq7⟩ := hq7
                    replace hq7 := hq7.symm
                    subst hq7
                    iterate 4 refine Wp.go rfl ?_
                    refine Wp.bneD (p := q < tc K.1) rfl (fun (h14 : q < tc K.1) => ?_) (fun (h14 : ¬ (q < tc K.1)) => ?_)
                    · have e0 : nfA K.1 p (some q) = true := by unfold nfA; first | (simp [inU, *]; done) | (rw [if_neg (by omega), if_neg (by omega), if_neg (by omega), if_neg (by omega), if_pos (by omega)]; simp [inU]; omega) | (simp [inU] at *; omega) | (simp_all [inU]; done) | (simp_all [inU]; omega)
                      refine Wp.lo (lo := [(0, .inr (some 167)), (1, .inl _), (2, .inl _), (3, .inl _)]) ⟨rfl, rfl, rfl, rfl, trivial⟩ ?_
                      exact lX12_op hM hk hx e0
                    · refine Wp.go rfl ?_
                      refine Wp.ret rfl ?_
                      have e0 : nfA K.1 p (some q) = false := by unfold nfA; first | (simp [inU, *]; done) | (rw [if_neg (by omega), if_neg (by omega), if_neg (by omega), if_neg (by omega), if_pos (by omega)]; simp [inU]; omega) | (simp [inU] at *; omega) | (simp_all [inU]; done) | (simp_all [inU]; omega)
                      have e1 : opR K y (some p) (some q) = (-2, K) := by show (if _ then _ else _) = _; rw [if_neg (by rw [e0]; decide)]
                      rw [e1]
                      exact ⟨rfl, hM, ofR.rf⟩
              · iterate 2 refine Wp.go rfl ?_
                refine Wp.call rfl cqX12_isType (sX12_isType hM.1 hk.1 hy (by omega)) (fun rv8 s8 hq8 => ?_)
                obtain ⟨rfl, hq8⟩ := hq8
                replace hq8 := hq8.symm
                subst hq8
                refine Wp.go rfl ?_
                refine Wp.beqD (p := q < tc K.1) rfl (fun (h15 : ¬ (q < tc K.1)) => ?_) (fun (h15 : q < tc K.1) => ?_)
                · iterate 5 refine Wp.go rfl ?_
                  refine Wp.neN (a := 0) (b := 0) (rfl : _ = nI 0) (rfl : _ = nI 0) (by decide) (by decide) (fun q => absurd q (by decide)) (fun _ => ?_)
                  refine Wp.go rfl ?_
                  refine Wp.ret rfl ?_
                  have e0 : nfA K.1 p (some q) = false := by unfold nfA; first | (simp [inU, *]; done) | (rw [if_neg (by omega), if_neg (by omega), if_neg (by omega), if_neg (by omega), if_pos (by omega)]; simp [inU]; omega) | (simp [inU] at *; omega) | (simp_all [inU]; done) | (simp_all [inU]; omega)
                  have e1 : opR K y (some p) (some q) = (-2, K) := by show (if _ then _ else _) = _; rw [if_neg (by rw [e0]; decide)]
                  rw [e1]
                  exact ⟨rfl, hM, ofR.rf⟩
                · iterate 3 refine Wp.go rfl ?_
                  refine Wp.go (if_pos ⟨rfl, rfl, (inE (n := 8) hy (by omega))⟩) ?_
                  refine Wp.go rfl ?_
                  refine Wp.bneE (rdE hy (by omega) ((hM.1.2 q (by omega)).2)) (fun (h17 : (tf K.1 q) = true) => ?_) (fun (h17 : (tf K.1 q) = false) => ?_)
                  · iterate 5 refine Wp.go rfl ?_
                    refine Wp.neN (a := 0) (b := 0) (rfl : _ = nI 0) (rfl : _ = nI 0) (by decide) (by decide) (fun q => absurd q (by decide)) (fun _ => ?_)
                    refine Wp.go rfl ?_
                    refine Wp.ret rfl ?_
                    have e0 : nfA K.1 p (some q) = false := by unfold nfA; first | (simp [inU, *]; done) | (rw [if_neg (by omega), if_neg (by omega), if_neg (by omega), if_neg (by omega), if_pos (by omega)]; simp [inU]; omega) | (simp [inU] at *; omega) | (simp_all [inU]; done) | (simp_all [inU]; omega)
                    have e1 : opR K y (some p) (some q) = (-2, K) := by show (if _ then _ else _) = _; rw [if_neg (by rw [e0]; decide)]
                    rw [e1]
                    exact ⟨rfl, hM, ofR.rf⟩
                  · iterate 6 refine Wp.go rfl ?_
                    refine Wp.neN (a := 1) (b := 0) (rfl : _ = nI 1) (rfl : _ = nI 0) (by decide) (by decide) (fun _ => ?_) (fun q => absurd q (by decide))
                    have e0 : nfA K.1 p (some q) = true := by unfold nfA; first | (simp [inU, *]; done) | (rw [if_neg (by omega), if_neg (by omega), if_neg (by omega), if_neg (by omega), if_pos (by omega)]; simp [inU]; omega) | (simp [inU] at *; omega) | (simp_all [inU]; done) | (simp_all [inU]; omega)
                    refine Wp.lo (lo := [(0, .inr (some 167)), (1, .inl _), (2, .inl _), (3, .inl _)]) ⟨rfl, rfl, rfl, rfl, trivial⟩ ?_
                    exact lX12_op hM hk hx e0
            · iterate 3 refine Wp.go rfl ?_
              refine Wp.call rfl cqX12_isIn (sX12_isIn_n hy (by omega) (rfl : _ = nI 0) (by omega) (rfl : _ = nI 6) (by omega)) (fun rv9 s9 hq9 => ?_)
              obtain ⟨rfl, hq9⟩ := hq9
              replace hq9 := hq9.symm
              subst hq9
              iterate 4 refine Wp.go rfl ?_
              refine Wp.bneD (p := 0 ≤ q ∧ q ≤ 6) rfl (fun (h20 : 0 ≤ q ∧ q ≤ 6) => ?_) (fun (h20 : ¬ (0 ≤ q ∧ q ≤ 6)) => ?_)
              · have e0 : nfA K.1 p (some q) = true := by unfold nfA; first | (simp [inU, *]; done) | (rw [if_neg (by omega), if_neg (by omega), if_neg (by omega), if_neg (by omega), if_pos (by omega)]; simp [inU]; omega) | (simp [inU] at *; omega) | (simp_all [inU]; done) | (simp_all [inU]; omega)
                refine Wp.lo (lo := [(0, .inr (some 167)), (1, .inl _), (2, .inl _), (3, .inl _)]) ⟨rfl, rfl, rfl, rfl, trivial⟩ ?_
                exact lX12_op hM hk hx e0
              · refine Wp.go rfl ?_
                refine Wp.ret rfl ?_
                have e0 : nfA K.1 p (some q) = false := by unfold nfA; first | (simp [inU, *]; done) | (rw [if_neg (by omega), if_neg (by omega), if_neg (by omega), if_neg (by omega), if_pos (by omega)]; simp [inU]; omega) | (simp [inU] at *; omega) | (simp_all [inU]; done) | (simp_all [inU]; omega)
                have e1 : opR K y (some p) (some q) = (-2, K) := by show (if _ then _ else _) = _; rw [if_neg (by rw [e0]; decide)]
                rw [e1]
                exact ⟨rfl, hM, ofR.rf⟩
        · iterate 3 refine Wp.go rfl ?_
          refine Wp.call rfl cqX12_isIn (sX12_isIn_n hy (by omega) (rfl : _ = nI 0) (by omega) (rfl : _ = nI 7) (by omega)) (fun rv10 s10 hq10 => ?_)
          obtain ⟨rfl, hq10⟩ := hq10
          replace hq10 := hq10.symm
          subst hq10
          iterate 4 refine Wp.go rfl ?_
          refine Wp.bneD (p := 0 ≤ q ∧ q ≤ 7) rfl (fun (h21 : 0 ≤ q ∧ q ≤ 7) => ?_) (fun (h21 : ¬ (0 ≤ q ∧ q ≤ 7)) => ?_)
          · have e0 : nfA K.1 p (some q) = true := by unfold nfA; first | (simp [inU, *]; done) | (rw [if_neg (by omega), if_neg (by omega), if_neg (by omega), if_neg (by omega), if_pos (by omega)]; simp [inU]; omega) | (simp [inU] at *; omega) | (simp_all [inU]; done) | (simp_all [inU]; omega)
            refine Wp.lo (lo := [(0, .inr (some 167)), (1, .inl _), (2, .inl _), (3, .inl _)]) ⟨rfl, rfl, rfl, rfl, trivial⟩ ?_
            exact lX12_op hM hk hx e0
          · refine Wp.go rfl ?_
            refine Wp.ret rfl ?_
            have e0 : nfA K.1 p (some q) = false := by unfold nfA; first | (simp [inU, *]; done) | (rw [if_neg (by omega), if_neg (by omega), if_neg (by omega), if_neg (by omega), if_pos (by omega)]; simp [inU]; omega) | (simp [inU] at *; omega) | (simp_all [inU]; done) | (simp_all [inU]; omega)
            have e1 : opR K y (some p) (some q) = (-2, K) := by show (if _ then _ else _) = _; rw [if_neg (by rw [e0]; decide)]
            rw [e1]
            exact ⟨rfl, hM, ofR.rf⟩
set_option maxRecDepth 100000 in
theorem sX12_op {K : kS} {σ : mc_G} (hM : cMod K σ) (hk : kOk K) {x y : Int32} {u v : Option Nat} (hu : oV x u) (hv : oV y v) : Wp miX12_op 0 [(0, .inr (some 167)), (1, .inl x), (2, .inl y)] [] σ (fun rv σ' => rv = some (.inl (opR K y u v).1) ∧ cMod (opR K y u v).2 σ' ∧ ofR 167 186 σ σ') := by
  iterate 3 refine Wp.go rfl ?_
  exact (ksX12_op (hM.c 0) hk hu hv ).mono (fun rv σ1 h => ⟨h.1, h.2.1, ((mo.f σ (cs := []) (fs := [0]) (by decide) 0).r (by decide)).tr h.2.2⟩)
set_option maxRecDepth 100000 in
theorem lX12_handler {K : kS} {σ : mc_G} (hM : cMod K σ) (hk : kOk K) {x y z t : Int32} {p q r e : Nat} (hx : x = nI p) (hy : y = nI q) (hz : z = nI r) (ht : t = nI e) (hg : (p < q ∧ q ≤ 30) ∧ r < 30 ∧ e < tc K.1) : Wp miX12_handler 52 [(0, .inr (some 167)), (1, .inl x), (2, .inl y), (3, .inl z), (4, .inl t)] [] σ (fun rv σ' => rv = some (.inl (hdR K (some p) (some q) (some r) (some e)).1) ∧ cMod (hdR K (some p) (some q) (some r) (some e)).2 σ' ∧ ofR 167 186 σ σ') := by
  have hn := hk.2.1.2
  iterate 4 refine Wp.go rfl ?_
  refine Wp.neN (a := qn K.2.1) (b := 4) hM.2.1.2.1 rfl (by omega) (by decide) (fun h1 => ?_) (fun h1 => ?_)
  · have e1 : hdR K (some p) (some q) (some r) (some e) = (nI (qn K.2.1), kN (kP K (paH K.2.1 p q r e))) := by
      show (if _ then _ else _) = _
      rw [if_pos hg, if_pos (by omega)]
    rw [e1]
    have ct := hM.2.1.2.1
    have cl := clE ct (show qn K.2.1 < 2 ^ 31 by omega)
    iterate 5 refine Wp.go rfl ?_
    refine Wp.go (if_pos ⟨(show 173 < 187 by decide), rfl, inE (n := 4) ct (by omega)⟩) ?_
    iterate 5 refine Wp.go rfl ?_
    refine Wp.go (if_pos ⟨(show 174 < 187 by decide), rfl, inE (n := 4) ct (by omega)⟩) ?_
    iterate 5 refine Wp.go rfl ?_
    refine Wp.go (if_pos ⟨(show 175 < 187 by decide), rfl, inE (n := 4) ct (by omega)⟩) ?_
    iterate 5 refine Wp.go rfl ?_
    refine Wp.go (if_pos ⟨(show 176 < 187 by decide), rfl, inE (n := 4) ct (by omega)⟩) ?_
    iterate 11 refine Wp.go rfl ?_
    let τ3 : mc_G := (mc_up (mc_up (mc_up (mc_up (mc_up σ 173 (σ 167 8).toNatClampNeg x) 174 (σ 167 8).toNatClampNeg y) 175 (σ 167 8).toNatClampNeg z) 176 (σ 167 8).toNatClampNeg t) 167 8 (σ 167 8 + 1))
    have ho3 : mo [173, 174, 175, 176] [8] σ τ3 := ((((mo.a _ (by decide) (by decide) _ _).tr (mo.a _ (by decide) (by decide) _ _)).tr (mo.a _ (by decide) (by decide) _ _)).tr (mo.a _ (by decide) (by decide) _ _)).tr (mo.f _ (by decide) _)
    have q1 : σ 167 8 + 1 = nI (qn K.2.1 + 1) := nE_add ct (rfl : _ = nI 1)
    have hP3 : cMP (paH K.2.1 p q r e) τ3 := by
      refine ⟨?_, ?_, fun k hk => ?_, fun j hj => ?_⟩
      · rw [ho3.2 5 (by decide)]; exact hM.2.1.1
      · show mc_up _ 167 8 _ 167 8 = _
        rw [upj, if_pos rfl]; exact q1
      · rw [ho3.1 171 (by decide) (by decide), ho3.1 172 (by decide) (by decide)]
        exact hM.2.1.2.2.1 k hk
      have hj' : j < qn K.2.1 + 1 := hj
      refine ⟨?_, ?_, ?_, ?_⟩
      · show mc_up _ 167 8 _ 173 j = nI (va_up (qf K.2.1) (qn K.2.1) p j)
        rw [mc_upn _ _ _ (by decide), mc_upn _ _ _ (by decide), mc_upn _ _ _ (by decide), mc_upn _ _ _ (by decide), upj, cl]
        unfold va_up
        by_cases e : j = qn K.2.1
        · rw [if_pos e, if_pos e]; exact hx
        · rw [if_neg e, if_neg e]; exact (hM.2.1.2.2.2 j (by omega)).1
      · show mc_up _ 167 8 _ 174 j = nI (va_up (qt K.2.1) (qn K.2.1) q j)
        rw [mc_upn _ _ _ (by decide), mc_upn _ _ _ (by decide), mc_upn _ _ _ (by decide), upj, cl]
        unfold va_up
        by_cases e : j = qn K.2.1
        · rw [if_pos e, if_pos e]; exact hy
        · rw [if_neg e, if_neg e]; rw [mc_upn _ _ _ (by decide)]; exact (hM.2.1.2.2.2 j (by omega)).2.1
      · show mc_up _ 167 8 _ 175 j = nI (va_up (qa K.2.1) (qn K.2.1) r j)
        rw [mc_upn _ _ _ (by decide), mc_upn _ _ _ (by decide), upj, cl]
        unfold va_up
        by_cases e : j = qn K.2.1
        · rw [if_pos e, if_pos e]; exact hz
        · rw [if_neg e, if_neg e]; rw [mc_upn _ _ _ (by decide), mc_upn _ _ _ (by decide)]; exact (hM.2.1.2.2.2 j (by omega)).2.2.1
      · show mc_up _ 167 8 _ 176 j = nI (va_up (qk K.2.1) (qn K.2.1) e j)
        rw [mc_upn _ _ _ (by decide), upj, cl]
        unfold va_up
        by_cases e : j = qn K.2.1
        · rw [if_pos e, if_pos e]; exact ht
        · rw [if_neg e, if_neg e]; rw [mc_upn _ _ _ (by decide), mc_upn _ _ _ (by decide), mc_upn _ _ _ (by decide)]; exact (hM.2.1.2.2.2 j (by omega)).2.2.2
    refine Wp.call rfl cqX12_ends sX12_ends (fun rv1 s1 hq1 => ?_)
    obtain ⟨rfl, rfl⟩ := hq1
    refine Wp.ret rfl ?_
    have hz : τ3 167 8 - 1 = nI (qn K.2.1) := nE_sub hP3.2.1 (rfl : _ = nI 1) (show 1 ≤ qn K.2.1 + 1 by omega)
    refine ⟨congrArg (fun q => some (Sum.inl q)) hz, cMod.enP (K := K) (P := paH K.2.1 p q r e) (σ := τ3) (hM.1.o ho3) hP3 (hM.2.2.1.o ho3) (by rw [ho3.2 14 (by decide)]; exact hM.2.2.2.2.1), (ho3.r (by decide)).tr ((mo.f τ3 (cs := []) (fs := [13]) (by decide) 0).r (by decide))⟩
  · have e1 : hdR K (some p) (some q) (some r) (some e) = (-3, K) := by
      show (if _ then _ else _) = _
      rw [if_pos hg, if_neg (by omega)]
    rw [e1]
    refine Wp.go rfl ?_
    refine Wp.ret rfl ?_
    exact ⟨rfl, hM, ofR.rf⟩
set_option maxRecDepth 100000 in
theorem ksX12_handler {K : kS} {σ : mc_G} (hM : cMod K σ) (hk : kOk K) {x y z t : Int32} {u v w s : Option Nat} (hu : oV x u) (hv : oV y v) (hw : oV z w) (hs : oV t s) : Wp miX12_handler 5 [(0, .inr (some 167)), (1, .inl x), (2, .inl y), (3, .inl z), (4, .inl t)] [] σ (fun rv σ' => rv = some (.inl (hdR K u v w s).1) ∧ cMod (hdR K u v w s).2 σ' ∧ ofR 167 186 σ σ') := by
  have h8 := hk.1.2.1
  rcases u with _ | p
  · have hx : x < 0 := hu
    rcases v with _ | q
    · have hy : y < 0 := hv
      rcases w with _ | r
      · have hz : z < 0 := hw
        rcases s with _ | e
        · have ht : t < 0 := hs
          iterate 3 refine Wp.go rfl ?_
          refine Wp.call rfl cqX12_isIn (sX12_isIn_g hx (rfl : _ = nI 0) (by decide)) (fun rv1 s1 hq1 => ?_)
          obtain ⟨rfl, hq1⟩ := hq1
          replace hq1 := hq1.symm
          subst hq1
          refine Wp.go rfl ?_
          refine Wp.beqE (b := false) rfl (fun _ => ?_) (fun q => by cases q)
          refine Wp.go rfl ?_
          refine Wp.ret rfl ?_
          exact ⟨rfl, hM, ofR.rf⟩
        · obtain ⟨ht, hle⟩ := hs
          iterate 3 refine Wp.go rfl ?_
          refine Wp.call rfl cqX12_isIn (sX12_isIn_g hx (rfl : _ = nI 0) (by decide)) (fun rv1 s1 hq1 => ?_)
          obtain ⟨rfl, hq1⟩ := hq1
          replace hq1 := hq1.symm
          subst hq1
          refine Wp.go rfl ?_
          refine Wp.beqE (b := false) rfl (fun _ => ?_) (fun q => by cases q)
          refine Wp.go rfl ?_
          refine Wp.ret rfl ?_
          exact ⟨rfl, hM, ofR.rf⟩
      · obtain ⟨hz, hlr⟩ := hw
        rcases s with _ | e
        · have ht : t < 0 := hs
          iterate 3 refine Wp.go rfl ?_
          refine Wp.call rfl cqX12_isIn (sX12_isIn_g hx (rfl : _ = nI 0) (by decide)) (fun rv1 s1 hq1 => ?_)
          obtain ⟨rfl, hq1⟩ := hq1
          replace hq1 := hq1.symm
          subst hq1
          refine Wp.go rfl ?_
          refine Wp.beqE (b := false) rfl (fun _ => ?_) (fun q => by cases q)
          refine Wp.go rfl ?_
          refine Wp.ret rfl ?_
          exact ⟨rfl, hM, ofR.rf⟩
        · obtain ⟨ht, hle⟩ := hs
          iterate 3 refine Wp.go rfl ?_
          refine Wp.call rfl cqX12_isIn (sX12_isIn_g hx (rfl : _ = nI 0) (by decide)) (fun rv1 s1 hq1 => ?_)
          obtain ⟨rfl, hq1⟩ := hq1
          replace hq1 := hq1.symm
          subst hq1
          refine Wp.go rfl ?_
          refine Wp.beqE (b := false) rfl (fun _ => ?_) (fun q => by cases q)
          refine Wp.go rfl ?_
          refine Wp.ret rfl ?_
          exact ⟨rfl, hM, ofR.rf⟩
    · obtain ⟨hy, hlq⟩ := hv
      rcases w with _ | r
      · have hz : z < 0 := hw
        rcases s with _ | e
        · have ht : t < 0 := hs
          iterate 3 refine Wp.go rfl ?_
          refine Wp.call rfl cqX12_isIn (sX12_isIn_g hx (rfl : _ = nI 0) (by decide)) (fun rv1 s1 hq1 => ?_)
          obtain ⟨rfl, hq1⟩ := hq1
          replace hq1 := hq1.symm
          subst hq1
          refine Wp.go rfl ?_
          refine Wp.beqE (b := false) rfl (fun _ => ?_) (fun q => by cases q)
          refine Wp.go rfl ?_
          refine Wp.ret rfl ?_
          exact ⟨rfl, hM, ofR.rf⟩
        · obtain ⟨ht, hle⟩ := hs
          iterate 3 refine Wp.go rfl ?_
          refine Wp.call rfl cqX12_isIn (sX12_isIn_g hx (rfl : _ = nI 0) (by decide)) (fun rv1 s1 hq1 => ?_)
          obtain ⟨rfl, hq1⟩ := hq1
          replace hq1 := hq1.symm
          subst hq1
          refine Wp.go rfl ?_
          refine Wp.beqE (b := false) rfl (fun _ => ?_) (fun q => by cases q)
          refine Wp.go rfl ?_
          refine Wp.ret rfl ?_
          exact ⟨rfl, hM, ofR.rf⟩
      · obtain ⟨hz, hlr⟩ := hw
        rcases s with _ | e
        · have ht : t < 0 := hs
          iterate 3 refine Wp.go rfl ?_
          refine Wp.call rfl cqX12_isIn (sX12_isIn_g hx (rfl : _ = nI 0) (by decide)) (fun rv1 s1 hq1 => ?_)
          obtain ⟨rfl, hq1⟩ := hq1
          replace hq1 := hq1.symm
          subst hq1
          refine Wp.go rfl ?_
          refine Wp.beqE (b := false) rfl (fun _ => ?_) (fun q => by cases q)
          refine Wp.go rfl ?_
          refine Wp.ret rfl ?_
          exact ⟨rfl, hM, ofR.rf⟩
        · obtain ⟨ht, hle⟩ := hs
          iterate 3 refine Wp.go rfl ?_
          refine Wp.call rfl cqX12_isIn (sX12_isIn_g hx (rfl : _ = nI 0) (by decide)) (fun rv1 s1 hq1 => ?_)
          obtain ⟨rfl, hq1⟩ := hq1
          replace hq1 := hq1.symm
          subst hq1
          refine Wp.go rfl ?_
          refine Wp.beqE (b := false) rfl (fun _ => ?_) (fun q => by cases q)
          refine Wp.go rfl ?_
          refine Wp.ret rfl ?_
          exact ⟨rfl, hM, ofR.rf⟩
  · obtain ⟨hx, hlp⟩ := hu
    rcases v with _ | q
    · have hy : y < 0 := hv
      rcases w with _ | r
      · have hz : z < 0 := hw
        rcases s with _ | e
        · have ht : t < 0 := hs
          iterate 3 refine Wp.go rfl ?_
          refine Wp.call rfl cqX12_isIn (sX12_isIn_n hx (by omega) (rfl : _ = nI 0) (by omega) (rfl : _ = nI 30) (by omega)) (fun rv1 s1 hq1 => ?_)
          obtain ⟨rfl, hq1⟩ := hq1
          replace hq1 := hq1.symm
          subst hq1
          refine Wp.go rfl ?_
          refine Wp.beqD (p := 0 ≤ p ∧ p ≤ 30) rfl (fun (h1 : ¬ (0 ≤ p ∧ p ≤ 30)) => ?_) (fun (h1 : 0 ≤ p ∧ p ≤ 30) => ?_)
          · refine Wp.go rfl ?_
            refine Wp.ret rfl ?_
            exact ⟨rfl, hM, ofR.rf⟩
          · iterate 3 refine Wp.go rfl ?_
            refine Wp.call rfl cqX12_isIn (sX12_isIn_g hy (rfl : _ = nI 0) (by decide)) (fun rv2 s2 hq2 => ?_)
            obtain ⟨rfl, hq2⟩ := hq2
            replace hq2 := hq2.symm
            subst hq2
            refine Wp.go rfl ?_
            refine Wp.beqE (b := false) rfl (fun _ => ?_) (fun q => by cases q)
            refine Wp.go rfl ?_
            refine Wp.ret rfl ?_
            exact ⟨rfl, hM, ofR.rf⟩
        · obtain ⟨ht, hle⟩ := hs
          iterate 3 refine Wp.go rfl ?_
          refine Wp.call rfl cqX12_isIn (sX12_isIn_n hx (by omega) (rfl : _ = nI 0) (by omega) (rfl : _ = nI 30) (by omega)) (fun rv1 s1 hq1 => ?_)
          obtain ⟨rfl, hq1⟩ := hq1
          replace hq1 := hq1.symm
          subst hq1
          refine Wp.go rfl ?_
          refine Wp.beqD (p := 0 ≤ p ∧ p ≤ 30) rfl (fun (h1 : ¬ (0 ≤ p ∧ p ≤ 30)) => ?_) (fun (h1 : 0 ≤ p ∧ p ≤ 30) => ?_)
          · refine Wp.go rfl ?_
            refine Wp.ret rfl ?_
            exact ⟨rfl, hM, ofR.rf⟩
          · iterate 3 refine Wp.go rfl ?_
            refine Wp.call rfl cqX12_isIn (sX12_isIn_g hy (rfl : _ = nI 0) (by decide)) (fun rv2 s2 hq2 => ?_)
            obtain ⟨rfl, hq2⟩ := hq2
            replace hq2 := hq2.symm
            subst hq2
            refine Wp.go rfl ?_
            refine Wp.beqE (b := false) rfl (fun _ => ?_) (fun q => by cases q)
            refine Wp.go rfl ?_
            refine Wp.ret rfl ?_
            exact ⟨rfl, hM, ofR.rf⟩
      · obtain ⟨hz, hlr⟩ := hw
        rcases s with _ | e
        · have ht : t < 0 := hs
          iterate 3 refine Wp.go rfl ?_
          refine Wp.call rfl cqX12_isIn (sX12_isIn_n hx (by omega) (rfl : _ = nI 0) (by omega) (rfl : _ = nI 30) (by omega)) (fun rv1 s1 hq1 => ?_)
          obtain ⟨rfl, hq1⟩ := hq1
          replace hq1 := hq1.symm
          subst hq1
          refine Wp.go rfl ?_
          refine Wp.beqD (p := 0 ≤ p ∧ p ≤ 30) rfl (fun (h1 : ¬ (0 ≤ p ∧ p ≤ 30)) => ?_) (fun (h1 : 0 ≤ p ∧ p ≤ 30) => ?_)
          · refine Wp.go rfl ?_
            refine Wp.ret rfl ?_
            exact ⟨rfl, hM, ofR.rf⟩
          · iterate 3 refine Wp.go rfl ?_
            refine Wp.call rfl cqX12_isIn (sX12_isIn_g hy (rfl : _ = nI 0) (by decide)) (fun rv2 s2 hq2 => ?_)
            obtain ⟨rfl, hq2⟩ := hq2
            replace hq2 := hq2.symm
            subst hq2
            refine Wp.go rfl ?_
            refine Wp.beqE (b := false) rfl (fun _ => ?_) (fun q => by cases q)
            refine Wp.go rfl ?_
            refine Wp.ret rfl ?_
            exact ⟨rfl, hM, ofR.rf⟩
        · obtain ⟨ht, hle⟩ := hs
          iterate 3 refine Wp.go rfl ?_
          refine Wp.call rfl cqX12_isIn (sX12_isIn_n hx (by omega) (rfl : _ = nI 0) (by omega) (rfl : _ = nI 30) (by omega)) (fun rv1 s1 hq1 => ?_)
          obtain ⟨rfl, hq1⟩ := hq1
          replace hq1 := hq1.symm
          subst hq1
          refine Wp.go rfl ?_
          refine Wp.beqD (p := 0 ≤ p ∧ p ≤ 30) rfl (fun (h1 : ¬ (0 ≤ p ∧ p ≤ 30)) => ?_) (fun (h1 : 0 ≤ p ∧ p ≤ 30) => ?_)
          · refine Wp.go rfl ?_
            refine Wp.ret rfl ?_
            exact ⟨rfl, hM, ofR.rf⟩
          · iterate 3 refine Wp.go rfl ?_
            refine Wp.call rfl cqX12_isIn (sX12_isIn_g hy (rfl : _ = nI 0) (by decide)) (fun rv2 s2 hq2 => ?_)
            obtain ⟨rfl, hq2⟩ := hq2
            replace hq2 := hq2.symm
            subst hq2
            refine Wp.go rfl ?_
            refine Wp.beqE (b := false) rfl (fun _ => ?_) (fun q => by cases q)
            refine Wp.go rfl ?_
            refine Wp.ret rfl ?_
            exact ⟨rfl, hM, ofR.rf⟩
    · obtain ⟨hy, hlq⟩ := hv
      rcases w with _ | r
      · have hz : z < 0 := hw
        rcases s with _ | e
        · have ht : t < 0 := hs
          iterate 3 refine Wp.go rfl ?_
          refine Wp.call rfl cqX12_isIn (sX12_isIn_n hx (by omega) (rfl : _ = nI 0) (by omega) (rfl : _ = nI 30) (by omega)) (fun rv1 s1 hq1 => ?_)
          obtain ⟨rfl, hq1⟩ := hq1
          replace hq1 := hq1.symm
          subst hq1
          refine Wp.go rfl ?_
          refine Wp.beqD (p := 0 ≤ p ∧ p ≤ 30) rfl (fun (h1 : ¬ (0 ≤ p ∧ p ≤ 30)) => ?_) (fun (h1 : 0 ≤ p ∧ p ≤ 30) => ?_)
          · refine Wp.go rfl ?_
            refine Wp.ret rfl ?_
            exact ⟨rfl, hM, ofR.rf⟩
          · iterate 3 refine Wp.go rfl ?_
            refine Wp.call rfl cqX12_isIn (sX12_isIn_n hy (by omega) (rfl : _ = nI 0) (by omega) (rfl : _ = nI 30) (by omega)) (fun rv2 s2 hq2 => ?_)
            obtain ⟨rfl, hq2⟩ := hq2
            replace hq2 := hq2.symm
            subst hq2
            refine Wp.go rfl ?_
            refine Wp.beqD (p := 0 ≤ q ∧ q ≤ 30) rfl (fun (h2 : ¬ (0 ≤ q ∧ q ≤ 30)) => ?_) (fun (h2 : 0 ≤ q ∧ q ≤ 30) => ?_)
            · refine Wp.go rfl ?_
              refine Wp.ret rfl ?_
              exact ⟨rfl, hM, ofR.rf⟩
            · iterate 3 refine Wp.go rfl ?_
              refine Wp.call rfl cqX12_isIn (sX12_isIn_g hz (rfl : _ = nI 0) (by decide)) (fun rv3 s3 hq3 => ?_)
              obtain ⟨rfl, hq3⟩ := hq3
              replace hq3 := hq3.symm
              subst hq3
              refine Wp.go rfl ?_
              refine Wp.beqE (b := false) rfl (fun _ => ?_) (fun q => by cases q)
              refine Wp.go rfl ?_
              refine Wp.ret rfl ?_
              exact ⟨rfl, hM, ofR.rf⟩
        · obtain ⟨ht, hle⟩ := hs
          iterate 3 refine Wp.go rfl ?_
          refine Wp.call rfl cqX12_isIn (sX12_isIn_n hx (by omega) (rfl : _ = nI 0) (by omega) (rfl : _ = nI 30) (by omega)) (fun rv1 s1 hq1 => ?_)
          obtain ⟨rfl, hq1⟩ := hq1
          replace hq1 := hq1.symm
          subst hq1
          refine Wp.go rfl ?_
          refine Wp.beqD (p := 0 ≤ p ∧ p ≤ 30) rfl (fun (h1 : ¬ (0 ≤ p ∧ p ≤ 30)) => ?_) (fun (h1 : 0 ≤ p ∧ p ≤ 30) => ?_)
          · refine Wp.go rfl ?_
            refine Wp.ret rfl ?_
            exact ⟨rfl, hM, ofR.rf⟩
          · iterate 3 refine Wp.go rfl ?_
            refine Wp.call rfl cqX12_isIn (sX12_isIn_n hy (by omega) (rfl : _ = nI 0) (by omega) (rfl : _ = nI 30) (by omega)) (fun rv2 s2 hq2 => ?_)
            obtain ⟨rfl, hq2⟩ := hq2
            replace hq2 := hq2.symm
            subst hq2
            refine Wp.go rfl ?_
            refine Wp.beqD (p := 0 ≤ q ∧ q ≤ 30) rfl (fun (h2 : ¬ (0 ≤ q ∧ q ≤ 30)) => ?_) (fun (h2 : 0 ≤ q ∧ q ≤ 30) => ?_)
            · refine Wp.go rfl ?_
              refine Wp.ret rfl ?_
              exact ⟨rfl, hM, ofR.rf⟩
            · iterate 3 refine Wp.go rfl ?_
              refine Wp.call rfl cqX12_isIn (sX12_isIn_g hz (rfl : _ = nI 0) (by decide)) (fun rv3 s3 hq3 => ?_)
              obtain ⟨rfl, hq3⟩ := hq3
              replace hq3 := hq3.symm
              subst hq3
              refine Wp.go rfl ?_
              refine Wp.beqE (b := false) rfl (fun _ => ?_) (fun q => by cases q)
              refine Wp.go rfl ?_
              refine Wp.ret rfl ?_
              exact ⟨rfl, hM, ofR.rf⟩
      · obtain ⟨hz, hlr⟩ := hw
        rcases s with _ | e
        · have ht : t < 0 := hs
          iterate 3 refine Wp.go rfl ?_
          refine Wp.call rfl cqX12_isIn (sX12_isIn_n hx (by omega) (rfl : _ = nI 0) (by omega) (rfl : _ = nI 30) (by omega)) (fun rv1 s1 hq1 => ?_)
          obtain ⟨rfl, hq1⟩ := hq1
          replace hq1 := hq1.symm
          subst hq1
          refine Wp.go rfl ?_
          refine Wp.beqD (p := 0 ≤ p ∧ p ≤ 30) rfl (fun (h1 : ¬ (0 ≤ p ∧ p ≤ 30)) => ?_) (fun (h1 : 0 ≤ p ∧ p ≤ 30) => ?_)
          · refine Wp.go rfl ?_
            refine Wp.ret rfl ?_
            exact ⟨rfl, hM, ofR.rf⟩
          · iterate 3 refine Wp.go rfl ?_
            refine Wp.call rfl cqX12_isIn (sX12_isIn_n hy (by omega) (rfl : _ = nI 0) (by omega) (rfl : _ = nI 30) (by omega)) (fun rv2 s2 hq2 => ?_)
            obtain ⟨rfl, hq2⟩ := hq2
            replace hq2 := hq2.symm
            subst hq2
            refine Wp.go rfl ?_
            refine Wp.beqD (p := 0 ≤ q ∧ q ≤ 30) rfl (fun (h2 : ¬ (0 ≤ q ∧ q ≤ 30)) => ?_) (fun (h2 : 0 ≤ q ∧ q ≤ 30) => ?_)
            · refine Wp.go rfl ?_
              refine Wp.ret rfl ?_
              exact ⟨rfl, hM, ofR.rf⟩
            · iterate 3 refine Wp.go rfl ?_
              refine Wp.call rfl cqX12_isIn (sX12_isIn_n hz (by omega) (rfl : _ = nI 0) (by omega) (rfl : _ = nI 29) (by omega)) (fun rv3 s3 hq3 => ?_)
              obtain ⟨rfl, hq3⟩ := hq3
              replace hq3 := hq3.symm
              subst hq3
              refine Wp.go rfl ?_
              refine Wp.beqD (p := 0 ≤ r ∧ r ≤ 29) rfl (fun (h3 : ¬ (0 ≤ r ∧ r ≤ 29)) => ?_) (fun (h3 : 0 ≤ r ∧ r ≤ 29) => ?_)
              · refine Wp.go rfl ?_
                refine Wp.ret rfl ?_
                exact ⟨rfl, hM, ofR.rf⟩
              · iterate 3 refine Wp.go rfl ?_
                refine Wp.geN (a := p) (b := q) hx hy (by omega) (by omega) (fun (h4 : ¬ p < q) => ?_) (fun (h4 : p < q) => ?_)
                · refine Wp.go rfl ?_
                  refine Wp.ret rfl ?_
                  exact ⟨rfl, hM, ofR.rf⟩
                · iterate 2 refine Wp.go rfl ?_
                  refine Wp.call rfl cqX12_isType (sX12_isType_g hM.1 hk.1 ht) (fun rv4 s4 hq4 => ?_)
                  obtain ⟨rfl, hq4⟩ := hq4
                  replace hq4 := hq4.symm
                  subst hq4
                  refine Wp.go rfl ?_
                  refine Wp.bneE (b := false) rfl (fun q => by cases q) (fun _ => ?_)
                  refine Wp.go rfl ?_
                  refine Wp.ret rfl ?_
                  exact ⟨rfl, hM, ofR.rf⟩
        · obtain ⟨ht, hle⟩ := hs
          iterate 3 refine Wp.go rfl ?_
          refine Wp.call rfl cqX12_isIn (sX12_isIn_n hx (by omega) (rfl : _ = nI 0) (by omega) (rfl : _ = nI 30) (by omega)) (fun rv1 s1 hq1 => ?_)
          obtain ⟨rfl, hq1⟩ := hq1
          replace hq1 := hq1.symm
          subst hq1
          refine Wp.go rfl ?_
          refine Wp.beqD (p := 0 ≤ p ∧ p ≤ 30) rfl (fun (h1 : ¬ (0 ≤ p ∧ p ≤ 30)) => ?_) (fun (h1 : 0 ≤ p ∧ p ≤ 30) => ?_)
          · refine Wp.go rfl ?_
            refine Wp.ret rfl ?_
            have e1 : hdR K (some p) (some q) (some r) (some e) = (-2, K) := by show (if _ then _ else _) = _; rw [if_neg (by omega)]
            rw [e1]
            exact ⟨rfl, hM, ofR.rf⟩
          · iterate 3 refine Wp.go rfl ?_
            refine Wp.call rfl cqX12_isIn (sX12_isIn_n hy (by omega) (rfl : _ = nI 0) (by omega) (rfl : _ = nI 30) (by omega)) (fun rv2 s2 hq2 => ?_)
            obtain ⟨rfl, hq2⟩ := hq2
            replace hq2 := hq2.symm
            subst hq2
            refine Wp.go rfl ?_
            refine Wp.beqD (p := 0 ≤ q ∧ q ≤ 30) rfl (fun (h2 : ¬ (0 ≤ q ∧ q ≤ 30)) => ?_) (fun (h2 : 0 ≤ q ∧ q ≤ 30) => ?_)
            · refine Wp.go rfl ?_
              refine Wp.ret rfl ?_
              have e1 : hdR K (some p) (some q) (some r) (some e) = (-2, K) := by show (if _ then _ else _) = _; rw [if_neg (by omega)]
              rw [e1]
              exact ⟨rfl, hM, ofR.rf⟩
            · iterate 3 refine Wp.go rfl ?_
              refine Wp.call rfl cqX12_isIn (sX12_isIn_n hz (by omega) (rfl : _ = nI 0) (by omega) (rfl : _ = nI 29) (by omega)) (fun rv3 s3 hq3 => ?_)
              obtain ⟨rfl, hq3⟩ := hq3
              replace hq3 := hq3.symm
              subst hq3
              refine Wp.go rfl ?_
              refine Wp.beqD (p := 0 ≤ r ∧ r ≤ 29) rfl (fun (h3 : ¬ (0 ≤ r ∧ r ≤ 29)) => ?_) (fun (h3 : 0 ≤ r ∧ r ≤ 29) => ?_)
              · refine Wp.go rfl ?_
                refine Wp.ret rfl ?_
                have e1 : hdR K (some p) (some q) (some r) (some e) = (-2, K) := by show (if _ then _ else _) = _; rw [if_neg (by omega)]
                rw [e1]
                exact ⟨rfl, hM, ofR.rf⟩
              · iterate 3 refine Wp.go rfl ?_
                refine Wp.geN (a := p) (b := q) hx hy (by omega) (by omega) (fun (h4 : ¬ p < q) => ?_) (fun (h4 : p < q) => ?_)
                · refine Wp.go rfl ?_
                  refine Wp.ret rfl ?_
                  have e1 : hdR K (some p) (some q) (some r) (some e) = (-2, K) := by show (if _ then _ else _) = _; rw [if_neg (by omega)]
                  rw [e1]
                  exact ⟨rfl, hM, ofR.rf⟩
                · iterate 2 refine Wp.go rfl ?_
                  refine Wp.call rfl cqX12_isType (sX12_isType hM.1 hk.1 ht (by omega)) (fun rv4 s4 hq4 => ?_)
                  obtain ⟨rfl, hq4⟩ := hq4
                  replace hq4 := hq4.symm
                  subst hq4
                  refine Wp.go rfl ?_
                  refine Wp.bneD (p := e < tc K.1) rfl (fun (h5 : e < tc K.1) => ?_) (fun (h5 : ¬ (e < tc K.1)) => ?_)
                  · exact lX12_handler hM hk hx hy hz ht (by omega)
                  · refine Wp.go rfl ?_
                    refine Wp.ret rfl ?_
                    have e1 : hdR K (some p) (some q) (some r) (some e) = (-2, K) := by show (if _ then _ else _) = _; rw [if_neg (by omega)]
                    rw [e1]
                    exact ⟨rfl, hM, ofR.rf⟩
set_option maxRecDepth 100000 in
theorem sX12_handler {K : kS} {σ : mc_G} (hM : cMod K σ) (hk : kOk K) {x y z t : Int32} {u v w s : Option Nat} (hu : oV x u) (hv : oV y v) (hw : oV z w) (hs : oV t s) : Wp miX12_handler 0 [(0, .inr (some 167)), (1, .inl x), (2, .inl y), (3, .inl z), (4, .inl t)] [] σ (fun rv σ' => rv = some (.inl (hdR K u v w s).1) ∧ cMod (hdR K u v w s).2 σ' ∧ ofR 167 186 σ σ') := by
  iterate 3 refine Wp.go rfl ?_
  exact (ksX12_handler (hM.c 0) hk hu hv hw hs ).mono (fun rv σ1 h => ⟨h.1, h.2.1, ((mo.f σ (cs := []) (fs := [0]) (by decide) 0).r (by decide)).tr h.2.2⟩)

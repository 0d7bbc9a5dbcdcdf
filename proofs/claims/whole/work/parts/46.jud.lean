set_option maxRecDepth 100000 in
theorem lX4_fw {P : pT} {T : tT} {F : fS} (hO1 : pn P ≤ 30 ∧ qn P ≤ 4) (hO : tOk T) (hFo : fOk F) (hp20 : ∀ k, k < pn P → po P k ≤ 20) (hB : ∀ j, j < qn P → qf P j < qt P j ∧ qt P j ≤ 30 ∧ qa P j < 30 ∧ qk P j < 8) (hN : pNum P) {Iv : Nat → jS → Prop} (hI1 : ∀ k J, Iv k J → k < pn P → (jtA T (pn P) F J k).1 = true → (jtA T (pn P) F J k).2.2 = true → (opA P k = 13 → suA T (opA P k) (nuN P k) (jtA T (pn P) F J k).2.1 = true → nuA P (tpA (jtA T (pn P) F J k).2.1 0 - 200) = nI (tyA P (jtA T (pn P) F J k).2.1) ∧ tyA P (jtA T (pn P) F J k).2.1 < 8 ∧ 200 ≤ tpA (jtA T (pn P) F J k).2.1 0) ∧ ((jpA P T F (jtA T (pn P) F J k).2 k).1 = true → Iv (k + 1) (jpA P T F (jtA T (pn P) F J k).2 k).2)) (hI2 : ∀ k J, Iv k J → k < pn P → (jtA T (pn P) F J k).1 = true → (jtA T (pn P) F J k).2.2 = false → Iv (k + 1) (jtA T (pn P) F J k).2) {σ0 : mc_G} : ∀ (n i : Nat) (x4 : Int32), x4 = nI i → i + n = pn P → ∀ (J : jS) (σ : mc_G), cJud J σ → Iv i J → cCode P σ → cTyp T σ → cFrm F σ → cSta σ → offJ σ0 σ → Wp miX4_firstWrong 15 [(0, .inr (some 162)), (1, .inr (some 11)), (2, .inl x4)] [] σ (fun rv σ' => rv = some (.inl (jwF P T F n i J)) ∧ (∃ J', cJud J' σ') ∧ offJ σ0 σ') := by
  intro n
  induction n with
  | zero =>
    intro i x4 hz4 hin J σ hJ hv hP hT hF hA ho
    iterate 3 refine Wp.go rfl ?_
    refine Wp.call rfl cqX1_size (sX1_size hP hO1) (fun rv1 s1 hq1 => ?_)
    obtain ⟨rfl, hq1⟩ := hq1
    replace hq1 := hq1.symm
    subst hq1
    refine Wp.go rfl ?_
    refine Wp.geN (a := i) (b := pn P) hz4 rfl (by omega) (by omega) (fun (h1 : ¬ i < pn P) => ?_) (fun (h1 : i < pn P) => ?_)
    · refine Wp.go rfl ?_
      refine Wp.ret rfl ?_
      exact ⟨rfl, ⟨_, hJ⟩, ho⟩
    · exfalso; omega
  | succ n ih =>
    intro i x4 hz4 hin J σ hJ hv hP hT hF hA ho
    iterate 3 refine Wp.go rfl ?_
    refine Wp.call rfl cqX1_size (sX1_size hP hO1) (fun rv1 s1 hq1 => ?_)
    obtain ⟨rfl, hq1⟩ := hq1
    replace hq1 := hq1.symm
    subst hq1
    refine Wp.go rfl ?_
    refine Wp.geN (a := i) (b := pn P) hz4 rfl (by omega) (by omega) (fun (h1 : ¬ i < pn P) => ?_) (fun (h1 : i < pn P) => ?_)
    · refine Wp.go rfl ?_
      refine Wp.ret rfl ?_
      exfalso; omega
    · iterate 2 refine Wp.go rfl ?_
      refine Wp.call rfl cqX4_takesFrame (sX4_takesFrame hO1 hO hFo hP hT hF hz4 (by omega) (hJ)) (fun rv2 s2 hq2 => ?_)
      obtain ⟨rfl, hJ2, ho2⟩ := hq2
      refine Wp.go rfl ?_
      refine Wp.beqE rfl (fun (h2 : ((jtA T (pn P) F J i).1) = false) => ?_) (fun (h2 : ((jtA T (pn P) F J i).1) = true) => ?_)
      · refine Wp.go rfl ?_
        refine Wp.ret rfl ?_
        have e1 : jwF P T F (n + 1) i J = nI i := by show (if (jtA T (pn P) F J i).1 = true then (if (jtA T (pn P) F J i).2.2 = true then (if jhA P T F (jtA T (pn P) F J i).2 i = true then (if (jpA P T F (jtA T (pn P) F J i).2 i).1 = true then jwF P T F n (i + 1) (jpA P T F (jtA T (pn P) F J i).2 i).2 else nI i) else nI i) else jwF P T F n (i + 1) (jtA T (pn P) F J i).2) else nI i) = _; rw [if_neg (by rw [h2]; decide)]
        rw [e1]
        exact ⟨rvN hz4 rfl, ⟨_, hJ2⟩, ho.tr ((offJ.rf).tr ho2)⟩
      · iterate 3 refine Wp.go rfl ?_
        refine Wp.beqE (hJ2).2.2 (fun (h3 : (((jtA T (pn P) F J i).2).2) = false) => ?_) (fun (h3 : (((jtA T (pn P) F J i).2).2) = true) => ?_)
        · iterate 2 refine Wp.go rfl ?_
          have e1 : jwF P T F (n + 1) i J = jwF P T F n (i + 1) (jtA T (pn P) F J i).2 := by show (if (jtA T (pn P) F J i).1 = true then (if (jtA T (pn P) F J i).2.2 = true then (if jhA P T F (jtA T (pn P) F J i).2 i = true then (if (jpA P T F (jtA T (pn P) F J i).2 i).1 = true then jwF P T F n (i + 1) (jpA P T F (jtA T (pn P) F J i).2 i).2 else nI i) else nI i) else jwF P T F n (i + 1) (jtA T (pn P) F J i).2) else nI i) = _; rw [if_pos h2, if_neg (by rw [h3]; decide)]
          rw [e1]
          have hoz := (offJ.rf).tr ho2
          refine Wp.lo (lo := [(0, .inr (some 162)), (1, .inr (some 11)), (2, .inl _)]) ⟨rfl, rfl, rfl, trivial⟩ ?_
          exact ih (i + 1) _ (nE_add hz4 (rfl : _ = nI 1)) (by omega) _ _ (hJ2) (hI2 i J hv (by omega) h2 h3) (hP.oJ hoz) (hT.oJ hoz) (hF.oJ hoz) (hA.oJ hoz) (ho.tr hoz)
        · iterate 2 refine Wp.go rfl ?_
          refine Wp.call rfl cqX4_handlersFit (sX4_handlersFit hO1 hO hFo hp20 hB hN (hP.oJ ((offJ.rf).tr ho2)) (hT.oJ ((offJ.rf).tr ho2)) (hF.oJ ((offJ.rf).tr ho2)) hz4 (by omega) (hJ2)) (fun rv3 s3 hq3 => ?_)
          obtain ⟨rfl, hJ3, ho3⟩ := hq3
          refine Wp.go rfl ?_
          refine Wp.beqE rfl (fun (h4 : (jhA P T F (jtA T (pn P) F J i).2 i) = false) => ?_) (fun (h4 : (jhA P T F (jtA T (pn P) F J i).2 i) = true) => ?_)
          · refine Wp.go rfl ?_
            refine Wp.ret rfl ?_
            have e1 : jwF P T F (n + 1) i J = nI i := by show (if (jtA T (pn P) F J i).1 = true then (if (jtA T (pn P) F J i).2.2 = true then (if jhA P T F (jtA T (pn P) F J i).2 i = true then (if (jpA P T F (jtA T (pn P) F J i).2 i).1 = true then jwF P T F n (i + 1) (jpA P T F (jtA T (pn P) F J i).2 i).2 else nI i) else nI i) else jwF P T F n (i + 1) (jtA T (pn P) F J i).2) else nI i) = _; rw [if_pos h2, if_pos h3, if_neg (by rw [h4]; decide)]
            rw [e1]
            exact ⟨rvN hz4 rfl, ⟨_, hJ3⟩, ho.tr (((offJ.rf).tr ho2).tr ho3)⟩
          · iterate 2 refine Wp.go rfl ?_
            refine Wp.call rfl cqX4_passes (sX4_passes hO1 hO hFo hp20 hB hN (hP.oJ (((offJ.rf).tr ho2).tr ho3)) (hT.oJ (((offJ.rf).tr ho2).tr ho3)) (hF.oJ (((offJ.rf).tr ho2).tr ho3)) (hA.oJ (((offJ.rf).tr ho2).tr ho3)) hz4 (by omega) (hJ3) (hI1 i J hv (by omega) h2 h3).1) (fun rv4 s4 hq4 => ?_)
            obtain ⟨rfl, hJ4, ho4⟩ := hq4
            refine Wp.go rfl ?_
            refine Wp.bneE rfl (fun (h5 : ((jpA P T F (jtA T (pn P) F J i).2 i).1) = true) => ?_) (fun (h5 : ((jpA P T F (jtA T (pn P) F J i).2 i).1) = false) => ?_)
            · iterate 2 refine Wp.go rfl ?_
              have e1 : jwF P T F (n + 1) i J = jwF P T F n (i + 1) (jpA P T F (jtA T (pn P) F J i).2 i).2 := by show (if (jtA T (pn P) F J i).1 = true then (if (jtA T (pn P) F J i).2.2 = true then (if jhA P T F (jtA T (pn P) F J i).2 i = true then (if (jpA P T F (jtA T (pn P) F J i).2 i).1 = true then jwF P T F n (i + 1) (jpA P T F (jtA T (pn P) F J i).2 i).2 else nI i) else nI i) else jwF P T F n (i + 1) (jtA T (pn P) F J i).2) else nI i) = _; rw [if_pos h2, if_pos h3, if_pos h4, if_pos h5]
              rw [e1]
              have hoz := (((offJ.rf).tr ho2).tr ho3).tr ho4
              refine Wp.lo (lo := [(0, .inr (some 162)), (1, .inr (some 11)), (2, .inl _)]) ⟨rfl, rfl, rfl, trivial⟩ ?_
              exact ih (i + 1) _ (nE_add hz4 (rfl : _ = nI 1)) (by omega) _ _ (hJ4) ((hI1 i J hv (by omega) h2 h3).2 h5) (hP.oJ hoz) (hT.oJ hoz) (hF.oJ hoz) (hA.oJ hoz) (ho.tr hoz)
            · refine Wp.go rfl ?_
              refine Wp.ret rfl ?_
              have e1 : jwF P T F (n + 1) i J = nI i := by show (if (jtA T (pn P) F J i).1 = true then (if (jtA T (pn P) F J i).2.2 = true then (if jhA P T F (jtA T (pn P) F J i).2 i = true then (if (jpA P T F (jtA T (pn P) F J i).2 i).1 = true then jwF P T F n (i + 1) (jpA P T F (jtA T (pn P) F J i).2 i).2 else nI i) else nI i) else jwF P T F n (i + 1) (jtA T (pn P) F J i).2) else nI i) = _; rw [if_pos h2, if_pos h3, if_pos h4, if_neg (by rw [h5]; decide)]
              rw [e1]
              exact ⟨rvN hz4 rfl, ⟨_, hJ4⟩, ho.tr ((((offJ.rf).tr ho2).tr ho3).tr ho4)⟩
theorem sX4_firstWrong {P : pT} {T : tT} {F : fS} (hO1 : pn P ≤ 30 ∧ qn P ≤ 4) (hO : tOk T) (hFo : fOk F) (hp20 : ∀ k, k < pn P → po P k ≤ 20) (hB : ∀ j, j < qn P → qf P j < qt P j ∧ qt P j ≤ 30 ∧ qa P j < 30 ∧ qk P j < 8) (hN : pNum P) {Iv : Nat → jS → Prop} (hI1 : ∀ k J, Iv k J → k < pn P → (jtA T (pn P) F J k).1 = true → (jtA T (pn P) F J k).2.2 = true → (opA P k = 13 → suA T (opA P k) (nuN P k) (jtA T (pn P) F J k).2.1 = true → nuA P (tpA (jtA T (pn P) F J k).2.1 0 - 200) = nI (tyA P (jtA T (pn P) F J k).2.1) ∧ tyA P (jtA T (pn P) F J k).2.1 < 8 ∧ 200 ≤ tpA (jtA T (pn P) F J k).2.1 0) ∧ ((jpA P T F (jtA T (pn P) F J k).2 k).1 = true → Iv (k + 1) (jpA P T F (jtA T (pn P) F J k).2 k).2)) (hI2 : ∀ k J, Iv k J → k < pn P → (jtA T (pn P) F J k).1 = true → (jtA T (pn P) F J k).2.2 = false → Iv (k + 1) (jtA T (pn P) F J k).2) {σ : mc_G} (hP : cCode P σ) (hT : cTyp T σ) (hF : cFrm F σ) (hA : cSta σ) {J : jS} (hJ : cJud J σ) {c : cS} (hc : cCel 11 c σ) (hv : Iv 0 (c, true)) : Wp miX4_firstWrong 0 [(0, .inr (some 162)), (1, .inr (some 11))] [] σ (fun rv σ' => rv = some (.inl (jwF P T F (pn P) 0 (c, true))) ∧ (∃ J', cJud J' σ') ∧ offJ σ σ') := by
  iterate 3 refine Wp.go rfl ?_
  refine Wp.call rfl cqX0_becomeLike (sX0_becomeLike isC_163 isC_11 hJ.1 hc ⟨by decide, by decide, by decide⟩) (fun rv1 s1 hq1 => ?_)
  obtain ⟨rfl, hc1, ho1⟩ := hq1
  have hg := hJ.hnd ho1 hc1
  iterate 5 refine Wp.go rfl ?_
  have hh := hg.1.ath (v := 1) (b := true) rfl
  have hoz := hg.2.tr hh.2
  refine Wp.lo (lo := [(0, .inr (some 162)), (1, .inr (some 11)), (2, .inl _)]) ⟨rfl, rfl, rfl, trivial⟩ ?_
  exact lX4_fw hO1 hO hFo hp20 hB hN hI1 hI2 (pn P) 0 _ (rfl : _ = nI 0) (by omega) _ _ hh.1 hv (hP.oJ hoz) (hT.oJ hoz) (hF.oJ hoz) (hA.oJ hoz) hoz

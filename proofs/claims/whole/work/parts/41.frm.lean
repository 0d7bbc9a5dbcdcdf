set_option maxRecDepth 100000 in
theorem sX3_add {P : pT} {T : tT} {S : sS} {F : fS} {σ : mc_G} (hP : cCode P σ) (hO1 : pn P ≤ 30 ∧ qn P ≤ 4) (hT : cTyp T σ) (hO : tOk T) (hS : cSts S σ) (hF : cFrm F σ) {x : Int32} {k : Nat} (hx : x = nI k) (hk : k ≤ 30) : Wp miX3_add 0 [(0, .inr (some 86)), (1, .inl x)] [] σ (fun rv σ' => rv = none ∧ cFrm (adA (pn P) S F k) σ' ∧ offF σ σ') := by
  have hc30 := hF.2.2
  by_cases hcc : F.2.2.2.2 < 30 ∧ k < pn P
  · have hc := hcc.1
    have hk30 : k < 30 := by omega
    iterate 4 refine Wp.go rfl ?_
    refine Wp.geN (a := F.2.2.2.2) (b := 30) (hF).2.1 (rfl : _ = nI 30) (by omega) (by omega) (fun (h1 : ¬ F.2.2.2.2 < 30) => ?_) (fun (h1 : F.2.2.2.2 < 30) => ?_)
    · refine Wp.ret rfl ?_
      refine ⟨rfl, ?_, offF.rf⟩
      unfold adA; rw [if_neg (by omega)]
      exact hF
    · iterate 3 refine Wp.go rfl ?_
      refine Wp.call rfl cqX1_has (sX1_has (hP.oF (offF.rf)) hO1 hx (by omega)) (fun rv1 s1 hq1 => ?_)
      obtain ⟨rfl, hq1⟩ := hq1
      replace hq1 := hq1.symm
      subst hq1
      refine Wp.go rfl ?_
      refine Wp.beqD (p := k < pn P) rfl (fun (h2 : ¬ (k < pn P)) => ?_) (fun (h2 : k < pn P) => ?_)
      · refine Wp.ret rfl ?_
        refine ⟨rfl, ?_, offF.rf⟩
        unfold adA; rw [if_neg (by omega)]
        exact hF
      · iterate 5 refine Wp.go rfl ?_
        refine Wp.go (if_pos ⟨(show 87 < 187 by decide), rfl, (inE (n := 30) (hF).2.1 (by omega))⟩) ?_
        iterate 5 refine Wp.go rfl ?_
        refine Wp.go (if_pos ⟨(show 88 < 187 by decide), rfl, (inE (n := 30) hx (by omega))⟩) ?_
        iterate 4 refine Wp.go rfl ?_
        refine Wp.call rfl cqX8_row (sX8_row90 (((((hF).ins (hF).2.1 (by omega) hx).1).num (q := nI (((va_up F.1 F.2.2.2.2 k, F.2)).2.2.2.2)) hx (by omega) (((hF).ins (hF).2.1 (by omega) hx).1).2.1).1).2.1 (by omega)) (fun rv2 s2 hq2 => ?_)
        obtain ⟨rfl, hq2⟩ := hq2
        replace hq2 := hq2.symm
        subst hq2
        iterate 3 refine Wp.go rfl ?_
        refine Wp.call rfl cqX7_row (sX7_row hx (by omega)) (fun rv3 s3 hq3 => ?_)
        obtain ⟨rfl, hq3⟩ := hq3
        replace hq3 := hq3.symm
        subst hq3
        refine Wp.call (if_pos ⟨((isC_giv hc)).1, ((isC_giv hc)).2.1, Nat.le_of_ble_eq_true rfl, Nat.le_of_ble_eq_true rfl⟩) cqX0_becomeLike (sX0_becomeLike (isC_giv hc) (isC_row hk30) ((((((hF).ins (hF).2.1 (by omega) hx).1).num (q := nI (((va_up F.1 F.2.2.2.2 k, F.2)).2.2.2.2)) hx (by omega) (((hF).ins (hF).2.1 (by omega) hx).1).2.1).1).1 F.2.2.2.2 hc).2.2.2 (((hS.oF (((offF.rf).tr ((hF).ins (hF).2.1 (by omega) hx).2).tr ((((hF).ins (hF).2.1 (by omega) hx).1).num (q := nI (((va_up F.1 F.2.2.2.2 k, F.2)).2.2.2.2)) hx (by omega) (((hF).ins (hF).2.1 (by omega) hx).1).2.1).2)).1 k hk30).1) ⟨by omega, by omega, by omega⟩) (fun rv4 s4 hq4 => ?_)
        obtain ⟨rfl, hc4, ho4⟩ := hq4
        have hg4 := (((((hF).ins (hF).2.1 (by omega) hx).1).num (q := nI (((va_up F.1 F.2.2.2.2 k, F.2)).2.2.2.2)) hx (by omega) (((hF).ins (hF).2.1 (by omega) hx).1).2.1).1).giv hc ho4 hc4
        iterate 5 refine Wp.go rfl ?_
        refine Wp.go rfl ?_
        refine Wp.ret rfl ?_
        refine ⟨rfl, ?_, ((((offF.rf).tr ((hF).ins (hF).2.1 (by omega) hx).2).tr ((((hF).ins (hF).2.1 (by omega) hx).1).num (q := nI (((va_up F.1 F.2.2.2.2 k, F.2)).2.2.2.2)) hx (by omega) (((hF).ins (hF).2.1 (by omega) hx).1).2.1).2).tr hg4.2).tr ((hg4.1).cnt (nE_add (hg4.1).2.1 (rfl : _ = nI 1)) (by first | omega | exact hc)).2⟩
        have hz := ((hg4.1).cnt (nE_add (hg4.1).2.1 (rfl : _ = nI 1)) (by first | omega | exact hc)).1
        unfold adA; rw [if_pos (by omega)]
        exact hz
  · have hc : F.2.2.2.2 < 31 := by omega
    iterate 4 refine Wp.go rfl ?_
    refine Wp.geN (a := F.2.2.2.2) (b := 30) (hF).2.1 (rfl : _ = nI 30) (by omega) (by omega) (fun (h1 : ¬ F.2.2.2.2 < 30) => ?_) (fun (h1 : F.2.2.2.2 < 30) => ?_)
    · refine Wp.ret rfl ?_
      refine ⟨rfl, ?_, offF.rf⟩
      unfold adA; rw [if_neg hcc]
      exact hF
    · iterate 3 refine Wp.go rfl ?_
      refine Wp.call rfl cqX1_has (sX1_has (hP.oF (offF.rf)) hO1 hx (by omega)) (fun rv1 s1 hq1 => ?_)
      obtain ⟨rfl, hq1⟩ := hq1
      replace hq1 := hq1.symm
      subst hq1
      refine Wp.go rfl ?_
      refine Wp.beqD (p := k < pn P) rfl (fun (h2 : ¬ (k < pn P)) => ?_) (fun (h2 : k < pn P) => ?_)
      · refine Wp.ret rfl ?_
        refine ⟨rfl, ?_, offF.rf⟩
        unfold adA; rw [if_neg hcc]
        exact hF
      · exact absurd ⟨h1, h2⟩ hcc
def fsA (F : fS) (i : Nat) : fS := (F.1, fun j => if j < i then -1 else F.2.1 j, fun j => if j < i then false else F.2.2.1 j, F.2.2.2)
theorem fsA_s {F : fS} {i : Nat} {σ : mc_G} (h : cFrm (F.1, va_up (fsA F i).2.1 i (-1), va_up (fsA F i).2.2.1 i false, F.2.2.2) σ) : cFrm (fsA F (i + 1)) σ := by
  refine h.cg (fun j _ => ?_) (fun j _ => ?_) rfl rfl
  · unfold fsA va_up
    by_cases e : j = i
    · simp [e]
    · by_cases e2 : j < i
      · simp [e, e2, show j < i + 1 by omega]
      · simp [e, e2, show ¬ j < i + 1 by omega]
  · unfold fsA va_up
    by_cases e : j = i
    · simp [e]
    · by_cases e2 : j < i
      · simp [e, e2, show j < i + 1 by omega]
      · simp [e, e2, show ¬ j < i + 1 by omega]
set_option maxRecDepth 100000 in
theorem lX3_gaA {F : fS} {σ0 : mc_G} {Φ : Option mc_V → mc_G → Prop} : ∀ (n i : Nat) (x1 : Int32), x1 = nI i → i + n = 31 → ∀ (σ : mc_G), cFrm (fsA F i) σ → offF σ0 σ → (∀ (y1 : Int32) (σ' : mc_G), cFrm (f0A F) σ' → offF σ0 σ' → Wp miX3_gather 28 [(0, .inr (some 86)), (1, .inl y1)] [] σ' Φ) → Wp miX3_gather 2 [(0, .inr (some 86)), (1, .inl x1)] [] σ Φ := by
  intro n
  induction n with
  | zero =>
    intro i x1 hz1 hin σ hF ho k
    iterate 3 refine Wp.go rfl ?_
    refine Wp.geN (a := i) (b := 30) hz1 (rfl : _ = nI 30) (by omega) (by omega) (fun (h1 : ¬ i < 30) => ?_) (fun (h1 : i < 30) => ?_)
    · exact k _ _ (hF.cg (fun j hj => by unfold fsA f0A; simp [show j < i by omega]) (fun j hj => by unfold fsA f0A; simp [show j < i by omega]) rfl rfl) ho
    · exfalso; omega
  | succ n ih =>
    intro i x1 hz1 hin σ hF ho k
    iterate 3 refine Wp.go rfl ?_
    refine Wp.geN (a := i) (b := 30) hz1 (rfl : _ = nI 30) (by omega) (by omega) (fun (h1 : ¬ i < 30) => ?_) (fun (h1 : i < 30) => ?_)
    · first | (exfalso; omega) | exact k _ _ (hF.cg (fun j hj => by unfold fsA f0A; simp [show j < i by omega]) (fun j hj => by unfold fsA f0A; simp [show j < i by omega]) rfl rfl) ho
    · iterate 4 refine Wp.go rfl ?_
      refine Wp.go (if_pos ⟨(show 88 < 187 by decide), rfl, (inE (n := 30) hz1 (by omega))⟩) ?_
      iterate 4 refine Wp.go rfl ?_
      refine Wp.go (if_pos ⟨(show 89 < 187 by decide), rfl, (inE (n := 30) hz1 (by omega)), Or.inl rfl⟩) ?_
      iterate 2 refine Wp.go rfl ?_
      have hz := fsA_s (F := F) (i := i) (((((hF).num (q := (-1)) hz1 (by omega) (rfl : _ = (-1 : Int32))).1).mea (q := false) hz1 (by omega) rfl).1)
      refine Wp.lo (lo := [(0, .inr (some 86)), (1, .inl _)]) ⟨rfl, rfl, trivial⟩ ?_
      exact ih (i + 1) _ (nE_add hz1 (rfl : _ = nI 1)) (by omega) _ hz (ho.tr (((offF.rf).tr ((hF).num (q := (-1)) hz1 (by omega) (rfl : _ = (-1 : Int32))).2).tr ((((hF).num (q := (-1)) hz1 (by omega) (rfl : _ = (-1 : Int32))).1).mea (q := false) hz1 (by omega) rfl).2)) k
set_option maxRecDepth 100000 in
theorem lX3_gaB {P : pT} {T : tT} {S : sS} (hO1 : pn P ≤ 30 ∧ qn P ≤ 4) (hp20 : ∀ k, k < pn P → po P k ≤ 20) (hB : ∀ j, j < qn P → qf P j < qt P j ∧ qt P j ≤ 30 ∧ qa P j < 30 ∧ qk P j < 8) (hN : pNum P) (hO : tOk T) {σ0 : mc_G} {Φ : Option mc_V → mc_G → Prop} : ∀ (n i : Nat) (x1 : Int32), x1 = nI i → i + n = pn P → ∀ (F : fS) (σ : mc_G), cFrm F σ → cCode P σ → cTyp T σ → cSts S σ → offF σ0 σ → (∀ (y1 : Int32) (σ' : mc_G), cFrm (foR (g1A P S) n i F) σ' → cCode P σ' → cTyp T σ' → cSts S σ' → offF σ0 σ' → Wp miX3_gather 63 [(0, .inr (some 86)), (1, .inl y1)] [] σ' Φ) → Wp miX3_gather 30 [(0, .inr (some 86)), (1, .inl x1)] [] σ Φ := by
  intro n
  induction n with
  | zero =>
    intro i x1 hz1 hin F σ hF hP hT hS ho k
    iterate 3 refine Wp.go rfl ?_
    refine Wp.call rfl cqX1_size (sX1_size (hP.oF (offF.rf)) hO1) (fun rv1 s1 hq1 => ?_)
    obtain ⟨rfl, hq1⟩ := hq1
    replace hq1 := hq1.symm
    subst hq1
    refine Wp.go rfl ?_
    refine Wp.geN (a := i) (b := pn P) hz1 rfl (by omega) (by omega) (fun (h1 : ¬ i < pn P) => ?_) (fun (h1 : i < pn P) => ?_)
    · exact k _ _ hF hP hT hS ho
    · exfalso; omega
  | succ n ih =>
    intro i x1 hz1 hin F σ hF hP hT hS ho k
    iterate 3 refine Wp.go rfl ?_
    refine Wp.call rfl cqX1_size (sX1_size (hP.oF (offF.rf)) hO1) (fun rv1 s1 hq1 => ?_)
    obtain ⟨rfl, hq1⟩ := hq1
    replace hq1 := hq1.symm
    subst hq1
    refine Wp.go rfl ?_
    refine Wp.geN (a := i) (b := pn P) hz1 rfl (by omega) (by omega) (fun (h1 : ¬ i < pn P) => ?_) (fun (h1 : i < pn P) => ?_)
    · exfalso; omega
    · iterate 3 refine Wp.go rfl ?_
      refine Wp.call rfl cqX7_isReached (sX7_isReached (hP.oF (offF.rf)) hO1 (hT.oF (offF.rf)) hO (hS.oF (offF.rf)) hz1 (by omega)) (fun rv2 s2 hq2 => ?_)
      obtain ⟨rfl, hq2⟩ := hq2
      replace hq2 := hq2.symm
      subst hq2
      refine Wp.go rfl ?_
      refine Wp.beqE rfl (fun (h2 : (decide (i < pn P) && S.2.1 i) = false) => ?_) (fun (h2 : (decide (i < pn P) && S.2.1 i) = true) => ?_)
      · iterate 2 refine Wp.go rfl ?_
        have e1 : foR (g1A P S) (n + 1) i F = foR (g1A P S) n (i + 1) F := by show foR (g1A P S) n (i + 1) (g1A P S F i) = _; unfold g1A; rw [if_neg (by rw [h2]; decide)]
        rw [e1] at k
        have hoz := @offF.rf σ
        refine Wp.lo (lo := [(0, .inr (some 86)), (1, .inl _)]) ⟨rfl, rfl, trivial⟩ ?_
        exact ih (i + 1) _ (nE_add hz1 (rfl : _ = nI 1)) (by omega) _ _ (hF) (hP.oF hoz) (hT.oF hoz) (hS.oF hoz) (ho.tr hoz) k
      · iterate 2 refine Wp.go rfl ?_
        refine Wp.call rfl cqX3_markWhatIsMeantBy (sX3_markWhatIsMeantBy hO1 hp20 hB hN hz1 (by omega) (hF) (hP.oF (offF.rf))) (fun rv3 s3 hq3 => ?_)
        obtain ⟨rfl, hF3, ho3⟩ := hq3
        iterate 2 refine Wp.go rfl ?_
        have e1 : foR (g1A P S) (n + 1) i F = foR (g1A P S) n (i + 1) (mwA P F i) := by show foR (g1A P S) n (i + 1) (g1A P S F i) = _; unfold g1A; rw [if_pos h2]
        rw [e1] at k
        have hoz := (offF.rf).tr ho3
        refine Wp.lo (lo := [(0, .inr (some 86)), (1, .inl _)]) ⟨rfl, rfl, trivial⟩ ?_
        exact ih (i + 1) _ (nE_add hz1 (rfl : _ = nI 1)) (by omega) _ _ (hF3) (hP.oF hoz) (hT.oF hoz) (hS.oF hoz) (ho.tr hoz) k
set_option maxRecDepth 100000 in
theorem lX3_gaC {P : pT} {T : tT} {S : sS} (hO1 : pn P ≤ 30 ∧ qn P ≤ 4) (hp20 : ∀ k, k < pn P → po P k ≤ 20) (hB : ∀ j, j < qn P → qf P j < qt P j ∧ qt P j ≤ 30 ∧ qa P j < 30 ∧ qk P j < 8) (hN : pNum P) (hO : tOk T) {σ0 : mc_G} : ∀ (n i : Nat) (x1 : Int32), x1 = nI i → i + n = 30 → ∀ (F : fS) (σ : mc_G), cFrm F σ → cCode P σ → cTyp T σ → cSts S σ → offF σ0 σ → Wp miX3_gather 70 [(0, .inr (some 86)), (1, .inl x1)] [] σ (fun rv σ' => rv = none ∧ cFrm (foR (g2A P S) n i F) σ' ∧ offF σ0 σ') := by
  intro n
  induction n with
  | zero =>
    intro i x1 hz1 hin F σ hF hP hT hS ho
    iterate 3 refine Wp.go rfl ?_
    refine Wp.geN (a := i) (b := 30) hz1 (rfl : _ = nI 30) (by omega) (by omega) (fun (h1 : ¬ i < 30) => ?_) (fun (h1 : i < 30) => ?_)
    · refine Wp.ret rfl ?_
      exact ⟨rfl, hF, ho⟩
    · exfalso; omega
  | succ n ih =>
    intro i x1 hz1 hin F σ hF hP hT hS ho
    iterate 3 refine Wp.go rfl ?_
    refine Wp.geN (a := i) (b := 30) hz1 (rfl : _ = nI 30) (by omega) (by omega) (fun (h1 : ¬ i < 30) => ?_) (fun (h1 : i < 30) => ?_)
    · refine Wp.ret rfl ?_
      exfalso; omega
    · iterate 3 refine Wp.go rfl ?_
      refine Wp.go (if_pos ⟨rfl, rfl, (inE (n := 30) hz1 (by omega))⟩) ?_
      refine Wp.go rfl ?_
      refine Wp.beqE (rdE hz1 (by omega) ((hF).1 i (by omega)).2.2.1) (fun (h2 : (F.2.2.1 i) = false) => ?_) (fun (h2 : (F.2.2.1 i) = true) => ?_)
      · iterate 2 refine Wp.go rfl ?_
        have e1 : foR (g2A P S) (n + 1) i F = foR (g2A P S) n (i + 1) F := by show foR (g2A P S) n (i + 1) (g2A P S F i) = _; unfold g2A; rw [if_neg (by rintro ⟨ha, hb⟩; simp_all)]
        rw [e1]
        have hoz := @offF.rf σ
        refine Wp.lo (lo := [(0, .inr (some 86)), (1, .inl _)]) ⟨rfl, rfl, trivial⟩ ?_
        exact ih (i + 1) _ (nE_add hz1 (rfl : _ = nI 1)) (by omega) _ _ (hF) (hP.oF hoz) (hT.oF hoz) (hS.oF hoz) (ho.tr hoz)
      · iterate 3 refine Wp.go rfl ?_
        refine Wp.call rfl cqX7_isReached (sX7_isReached (hP.oF (offF.rf)) hO1 (hT.oF (offF.rf)) hO (hS.oF (offF.rf)) hz1 (by omega)) (fun rv1 s1 hq1 => ?_)
        obtain ⟨rfl, hq1⟩ := hq1
        replace hq1 := hq1.symm
        subst hq1
        refine Wp.go rfl ?_
        refine Wp.beqE rfl (fun (h3 : (decide (i < pn P) && S.2.1 i) = false) => ?_) (fun (h3 : (decide (i < pn P) && S.2.1 i) = true) => ?_)
        · iterate 2 refine Wp.go rfl ?_
          have e1 : foR (g2A P S) (n + 1) i F = foR (g2A P S) n (i + 1) F := by show foR (g2A P S) n (i + 1) (g2A P S F i) = _; unfold g2A; rw [if_neg (by rintro ⟨ha, hb⟩; simp_all)]
          rw [e1]
          have hoz := @offF.rf σ
          refine Wp.lo (lo := [(0, .inr (some 86)), (1, .inl _)]) ⟨rfl, rfl, trivial⟩ ?_
          exact ih (i + 1) _ (nE_add hz1 (rfl : _ = nI 1)) (by omega) _ _ (hF) (hP.oF hoz) (hT.oF hoz) (hS.oF hoz) (ho.tr hoz)
        · iterate 2 refine Wp.go rfl ?_
          refine Wp.call rfl cqX3_add (sX3_add (hP.oF (offF.rf)) hO1 (hT.oF (offF.rf)) hO (hS.oF (offF.rf)) (hF) hz1 (by omega)) (fun rv2 s2 hq2 => ?_)
          obtain ⟨rfl, hF2, ho2⟩ := hq2
          iterate 2 refine Wp.go rfl ?_
          have e1 : foR (g2A P S) (n + 1) i F = foR (g2A P S) n (i + 1) (adA (pn P) S F i) := by show foR (g2A P S) n (i + 1) (g2A P S F i) = _; unfold g2A; rw [if_pos ⟨h2, h3⟩]
          rw [e1]
          have hoz := (offF.rf).tr ho2
          refine Wp.lo (lo := [(0, .inr (some 86)), (1, .inl _)]) ⟨rfl, rfl, trivial⟩ ?_
          exact ih (i + 1) _ (nE_add hz1 (rfl : _ = nI 1)) (by omega) _ _ (hF2) (hP.oF hoz) (hT.oF hoz) (hS.oF hoz) (ho.tr hoz)
set_option maxRecDepth 100000 in
theorem sX3_gather {P : pT} {T : tT} {S : sS} (hO1 : pn P ≤ 30 ∧ qn P ≤ 4) (hp20 : ∀ k, k < pn P → po P k ≤ 20) (hB : ∀ j, j < qn P → qf P j < qt P j ∧ qt P j ≤ 30 ∧ qa P j < 30 ∧ qk P j < 8) (hN : pNum P) (hO : tOk T) {F : fS} {σ : mc_G} (hF : cFrm F σ) (hP : cCode P σ) (hT : cTyp T σ) (hS : cSts S σ) : Wp miX3_gather 0 [(0, .inr (some 86))] [] σ (fun rv σ' => rv = none ∧ cFrm (gaA P S F) σ' ∧ offF σ σ') := by
  iterate 2 refine Wp.go rfl ?_
  refine Wp.lo (lo := [(0, .inr (some 86)), (1, .inl _)]) ⟨rfl, rfl, trivial⟩ ?_
  refine lX3_gaA (F := F) 31 0 _ (rfl : _ = nI 0) rfl _ (hF.cg (fun j _ => by unfold fsA; simp) (fun j _ => by unfold fsA; simp) rfl rfl) offF.rf (fun y1 s1 hF1 ho1 => ?_)
  iterate 2 refine Wp.go rfl ?_
  refine Wp.lo (lo := [(0, .inr (some 86)), (1, .inl _)]) ⟨rfl, rfl, trivial⟩ ?_
  refine lX3_gaB (T := T) hO1 hp20 hB hN hO (pn P) 0 _ (rfl : _ = nI 0) (by omega) _ _ hF1 (hP.oF ho1) (hT.oF ho1) (hS.oF ho1) ho1 (fun y2 s2 hF2 hP2 hT2 hS2 ho2 => ?_)
  iterate 3 refine Wp.go rfl ?_
  have hz := hF2.cnt (v := 0) (q := 0) rfl (by decide)
  iterate 2 refine Wp.go rfl ?_
  refine Wp.lo (lo := [(0, .inr (some 86)), (1, .inl _)]) ⟨rfl, rfl, trivial⟩ ?_
  exact lX3_gaC (T := T) hO1 hp20 hB hN hO 30 0 _ (rfl : _ = nI 0) rfl _ _ hz.1 (hP2.oF hz.2) (hT2.oF hz.2) (hS2.oF hz.2) (ho2.tr hz.2)

set_option maxRecDepth 100000 in
theorem sX3_count {σ : mc_G} {F : fS} (hF : cFrm F σ) : Wp miX3_count 0 [(0, .inr (some 86))] [] σ (fun rv σ' => rv = some (.inl (nI (F.2.2.2.2))) ∧ σ' = σ) := by
  iterate 2 refine Wp.go rfl ?_
  refine Wp.ret rfl ?_
  exact ⟨rvN (hF).2.1 (by rfl), rfl⟩
def iuA (F : fS) (k : Nat) : Int32 := if k < F.2.2.2.2 then nI (F.1 k) else -1
set_option maxRecDepth 100000 in
theorem sX3_instructionOf {σ : mc_G} {F : fS} (hF : cFrm F σ) {x : Int32} {k : Nat} (hx : x = nI k) (hk : k < 2 ^ 31) : Wp miX3_instructionOf 0 [(0, .inr (some 86)), (1, .inl x)] [] σ (fun rv σ' => rv = some (.inl (iuA F k)) ∧ σ' = σ) := by
  have hc30 := hF.2.2
  iterate 2 refine Wp.go rfl ?_
  refine Wp.ltN (a := k) (b := 0) hx (rfl : _ = nI 0) (by omega) (by omega) (fun (h1 : k < 0) => ?_) (fun (h1 : ¬ k < 0) => ?_)
  · refine Wp.go rfl ?_
    refine Wp.ret rfl ?_
    exact ⟨rvI (rfl : _ = (-1 : Int32)) (by unfold iuA; first | (rw [if_pos (by omega)]; done) | (rw [if_neg (by omega)]; done)), rfl⟩
  · iterate 4 refine Wp.go rfl ?_
    refine Wp.geN (a := k) (b := F.2.2.2.2) hx (hF).2.1 (by omega) (by omega) (fun (h2 : ¬ k < F.2.2.2.2) => ?_) (fun (h2 : k < F.2.2.2.2) => ?_)
    · refine Wp.go rfl ?_
      refine Wp.ret rfl ?_
      exact ⟨rvI (rfl : _ = (-1 : Int32)) (by unfold iuA; first | (rw [if_pos (by omega)]; done) | (rw [if_neg (by omega)]; done)), rfl⟩
    · iterate 3 refine Wp.go rfl ?_
      refine Wp.geN (a := k) (b := 30) hx (rfl : _ = nI 30) (by omega) (by omega) (fun (h3 : ¬ k < 30) => ?_) (fun (h3 : k < 30) => ?_)
      · refine Wp.go rfl ?_
        refine Wp.ret rfl ?_
        exact ⟨rvI (rfl : _ = (-1 : Int32)) (by unfold iuA; first | (rw [if_pos (by omega)]; done) | (rw [if_neg (by omega)]; done)), rfl⟩
      · iterate 3 refine Wp.go rfl ?_
        refine Wp.go (if_pos ⟨rfl, rfl, (inE (n := 30) hx (by omega))⟩) ?_
        refine Wp.go rfl ?_
        refine Wp.ret rfl ?_
        exact ⟨rvI (rdE hx (by omega) ((hF).1 k (by omega)).1) (by unfold iuA; first | (rw [if_pos (by omega)]; done) | (rw [if_neg (by omega)]; done)), rfl⟩
set_option maxRecDepth 100000 in
theorem sX3_instructionOf_n {σ : mc_G} {x : Int32} (hx : x < 0) : Wp miX3_instructionOf 0 [(0, .inr (some 86)), (1, .inl x)] [] σ (fun rv σ' => rv = some (.inl (-1)) ∧ σ' = σ) := by
  iterate 2 refine Wp.go rfl ?_
  refine Wp.lt (fun h1 => ?_) (fun h1 => absurd hx h1)
  refine Wp.go rfl ?_
  refine Wp.ret rfl ?_
  exact ⟨rfl, rfl⟩
def nmA (n : Nat) (F : fS) (k : Nat) : Int32 := if k < n then F.2.1 k else -1
set_option maxRecDepth 100000 in
theorem sX3_numberAt {P : pT} {σ : mc_G} (hP : cCode P σ) (hO1 : pn P ≤ 30 ∧ qn P ≤ 4) {F : fS} (hF : cFrm F σ) {x : Int32} {k : Nat} (hx : x = nI k) (hk : k ≤ 30) : Wp miX3_numberAt 0 [(0, .inr (some 86)), (1, .inl x)] [] σ (fun rv σ' => rv = some (.inl (nmA (pn P) F k)) ∧ σ' = σ) := by
  iterate 3 refine Wp.go rfl ?_
  refine Wp.call rfl cqX1_has (sX1_has (hP.oF (offF.rf)) hO1 hx (by omega)) (fun rv1 s1 hq1 => ?_)
  obtain ⟨rfl, hq1⟩ := hq1
  replace hq1 := hq1.symm
  subst hq1
  refine Wp.go rfl ?_
  refine Wp.beqD (p := k < pn P) rfl (fun (h1 : ¬ (k < pn P)) => ?_) (fun (h1 : k < pn P) => ?_)
  · refine Wp.go rfl ?_
    refine Wp.ret rfl ?_
    exact ⟨rvI (rfl : _ = (-1 : Int32)) (by simp [nmA, h1]), rfl⟩
  · iterate 3 refine Wp.go rfl ?_
    refine Wp.go (if_pos ⟨rfl, rfl, (inE (n := 30) hx (by omega))⟩) ?_
    refine Wp.go rfl ?_
    refine Wp.ret rfl ?_
    exact ⟨rvI (rdE hx (by omega) ((hF).1 k (by omega)).2.1) (by simp [nmA, h1]), rfl⟩
set_option maxRecDepth 100000 in
theorem sX3_mark {P : pT} {σ : mc_G} (hP : cCode P σ) (hO1 : pn P ≤ 30 ∧ qn P ≤ 4) {F : fS} (hF : cFrm F σ) {x : Int32} {k : Nat} (hx : x = nI k) (hk : k ≤ 30) : Wp miX3_mark 0 [(0, .inr (some 86)), (1, .inl x)] [] σ (fun rv σ' => rv = none ∧ cFrm (mkA (pn P) F k) σ' ∧ offF σ σ') := by
  iterate 3 refine Wp.go rfl ?_
  refine Wp.call rfl cqX1_has (sX1_has (hP.oF (offF.rf)) hO1 hx (by omega)) (fun rv1 s1 hq1 => ?_)
  obtain ⟨rfl, hq1⟩ := hq1
  replace hq1 := hq1.symm
  subst hq1
  refine Wp.go rfl ?_
  refine Wp.beqD (p := k < pn P) rfl (fun (h1 : ¬ (k < pn P)) => ?_) (fun (h1 : k < pn P) => ?_)
  · refine Wp.ret rfl ?_
    refine ⟨rfl, ?_, offF.rf⟩
    have hz := hF
    unfold mkA
    rw [if_neg h1]
    exact hz
  · iterate 4 refine Wp.go rfl ?_
    refine Wp.go (if_pos ⟨(show 89 < 187 by decide), rfl, (inE (n := 30) hx (by omega)), Or.inr rfl⟩) ?_
    refine Wp.ret rfl ?_
    refine ⟨rfl, ?_, (offF.rf).tr ((hF).mea (q := true) hx (by omega) rfl).2⟩
    have hz := ((hF).mea (q := true) hx (by omega) rfl).1
    unfold mkA
    rw [if_pos h1]
    exact hz
set_option maxRecDepth 100000 in
theorem lX3_mw {P : pT} (hO1 : pn P ≤ 30 ∧ qn P ≤ 4) (hp20 : ∀ k, k < pn P → po P k ≤ 20) (hB : ∀ j, j < qn P → qf P j < qt P j ∧ qt P j ≤ 30 ∧ qa P j < 30 ∧ qk P j < 8) (hN : pNum P) {x : Int32} {k : Nat} (hx : x = nI k) (hk : k < 30) {σ0 : mc_G} : ∀ (n i : Nat) (x2 : Int32), x2 = nI i → i + n = qn P → ∀ (F : fS) (σ : mc_G), cFrm F σ → cCode P σ → offF σ0 σ → Wp miX3_markWhatIsMeantBy 25 [(0, .inr (some 86)), (1, .inl x), (2, .inl x2)] [] σ (fun rv σ' => rv = none ∧ cFrm (foR (mhA P k) n i F) σ' ∧ offF σ0 σ') := by
  intro n
  induction n with
  | zero =>
    intro i x2 hz2 hin F σ hF hP ho
    iterate 3 refine Wp.go rfl ?_
    refine Wp.call rfl cqX1_handlers (sX1_handlers (hP.oF (offF.rf)) hO1) (fun rv1 s1 hq1 => ?_)
    obtain ⟨rfl, hq1⟩ := hq1
    replace hq1 := hq1.symm
    subst hq1
    refine Wp.go rfl ?_
    refine Wp.geN (a := i) (b := qn P) hz2 rfl (by omega) (by omega) (fun (h1 : ¬ i < qn P) => ?_) (fun (h1 : i < qn P) => ?_)
    · refine Wp.ret rfl ?_
      exact ⟨rfl, hF, ho⟩
    · exfalso; omega
  | succ n ih =>
    intro i x2 hz2 hin F σ hF hP ho
    iterate 3 refine Wp.go rfl ?_
    refine Wp.call rfl cqX1_handlers (sX1_handlers (hP.oF (offF.rf)) hO1) (fun rv1 s1 hq1 => ?_)
    obtain ⟨rfl, hq1⟩ := hq1
    replace hq1 := hq1.symm
    subst hq1
    refine Wp.go rfl ?_
    refine Wp.geN (a := i) (b := qn P) hz2 rfl (by omega) (by omega) (fun (h1 : ¬ i < qn P) => ?_) (fun (h1 : i < qn P) => ?_)
    · refine Wp.ret rfl ?_
      first | (exfalso; omega) | exact ⟨rfl, hF, ho⟩
    · iterate 4 refine Wp.go rfl ?_
      refine Wp.call rfl cqX1_covers (sX1_covers (hP.oF (offF.rf)) hO1 hz2 (by omega) hx (by omega) hB) (fun rv2 s2 hq2 => ?_)
      obtain ⟨rfl, hq2⟩ := hq2
      replace hq2 := hq2.symm
      subst hq2
      refine Wp.go rfl ?_
      refine Wp.beqE rfl (fun (h2 : (cvA P i k) = false) => ?_) (fun (h2 : (cvA P i k) = true) => ?_)
      · iterate 2 refine Wp.go rfl ?_
        have e1 : foR (mhA P k) (n + 1) i F = foR (mhA P k) n (i + 1) F := by show foR (mhA P k) n (i + 1) (mhA P k F i) = _; unfold mhA; rw [if_neg (by rw [h2]; decide)]
        rw [e1]
        have hoz := @offF.rf σ
        refine Wp.lo (lo := [(0, .inr (some 86)), (1, .inl _), (2, .inl _)]) ⟨rfl, rfl, rfl, trivial⟩ ?_
        exact ih (i + 1) _ (nE_add hz2 (rfl : _ = nI 1)) (by omega) _ _ (hF) (hP.oF hoz) (ho.tr hoz)
      · iterate 4 refine Wp.go rfl ?_
        refine Wp.call rfl cqX1_startOf (sX1_startOf (hP.oF (offF.rf)) hO1 hz2 (by omega) hB) (fun rv3 s3 hq3 => ?_)
        obtain ⟨rfl, hq3⟩ := hq3
        replace hq3 := hq3.symm
        subst hq3
        refine Wp.call rfl cqX3_mark (sX3_mark (hP.oF (offF.rf)) hO1 (hF) (stE (by omega)) (by have := hB i (by omega); omega)) (fun rv4 s4 hq4 => ?_)
        obtain ⟨rfl, hF4, ho4⟩ := hq4
        iterate 2 refine Wp.go rfl ?_
        have e1 : foR (mhA P k) (n + 1) i F = foR (mhA P k) n (i + 1) (mkA (pn P) F (qa P i)) := by show foR (mhA P k) n (i + 1) (mhA P k F i) = _; unfold mhA; rw [if_pos h2]
        rw [e1]
        have hoz := (offF.rf).tr ho4
        refine Wp.lo (lo := [(0, .inr (some 86)), (1, .inl _), (2, .inl _)]) ⟨rfl, rfl, rfl, trivial⟩ ?_
        exact ih (i + 1) _ (nE_add hz2 (rfl : _ = nI 1)) (by omega) _ _ (hF4) (hP.oF hoz) (ho.tr hoz)
set_option maxRecDepth 100000 in
theorem sX3_markWhatIsMeantBy {P : pT} (hO1 : pn P ≤ 30 ∧ qn P ≤ 4) (hp20 : ∀ k, k < pn P → po P k ≤ 20) (hB : ∀ j, j < qn P → qf P j < qt P j ∧ qt P j ≤ 30 ∧ qa P j < 30 ∧ qk P j < 8) (hN : pNum P) {x : Int32} {k : Nat} (hx : x = nI k) (hk : k < 30) {F : fS} {σ : mc_G} (hF : cFrm F σ) (hP : cCode P σ) : Wp miX3_markWhatIsMeantBy 0 [(0, .inr (some 86)), (1, .inl x)] [] σ (fun rv σ' => rv = none ∧ cFrm (mwA P F k) σ' ∧ offF σ σ') := by
  iterate 3 refine Wp.go rfl ?_
  refine Wp.call rfl cqX1_jumps (sX1_jumps (hP.oF (offF.rf)) hO1 hx (by omega) hp20) (fun rv1 s1 hq1 => ?_)
  obtain ⟨rfl, hq1⟩ := hq1
  replace hq1 := hq1.symm
  subst hq1
  refine Wp.go rfl ?_
  refine Wp.beqE rfl (fun (h1 : (juA P k) = false) => ?_) (fun (h1 : (juA P k) = true) => ?_)
  · iterate 2 refine Wp.go rfl ?_
    have e1 : mwA P F k = foR (mhA P k) (qn P) 0 F := by unfold mwA; rw [if_neg (by rw [h1]; decide)]
    rw [e1]
    have hoz := @offF.rf σ
    refine Wp.lo (lo := [(0, .inr (some 86)), (1, .inl _), (2, .inl _)]) ⟨rfl, rfl, rfl, trivial⟩ ?_
    exact lX3_mw hO1 hp20 hB hN hx hk (qn P) 0 _ (rfl : _ = nI 0) (by omega) _ _ (hF) (hP.oF hoz) hoz
  · iterate 4 refine Wp.go rfl ?_
    refine Wp.call rfl cqX1_numberAt (sX1_numberAt (hP.oF (offF.rf)) hO1 hx (by omega)) (fun rv2 s2 hq2 => ?_)
    obtain ⟨rfl, hq2⟩ := hq2
    replace hq2 := hq2.symm
    subst hq2
    refine Wp.call rfl cqX3_mark (sX3_mark (hP.oF (offF.rf)) hO1 (hF) (hN.2.2 k h1).1 (by have := (hN.2.2 k h1).2; omega)) (fun rv3 s3 hq3 => ?_)
    obtain ⟨rfl, hF3, ho3⟩ := hq3
    iterate 2 refine Wp.go rfl ?_
    have e1 : mwA P F k = foR (mhA P k) (qn P) 0 (mkA (pn P) F (nuN P k)) := by unfold mwA; rw [if_pos h1]
    rw [e1]
    have hoz := (offF.rf).tr ho3
    refine Wp.lo (lo := [(0, .inr (some 86)), (1, .inl _), (2, .inl _)]) ⟨rfl, rfl, rfl, trivial⟩ ?_
    exact lX3_mw hO1 hp20 hB hN hx hk (qn P) 0 _ (rfl : _ = nI 0) (by omega) _ _ (hF3) (hP.oF hoz) hoz

set_option maxRecDepth 100000 in
theorem sX0_holds' {a : Nat} {c : cS} {σ : mc_G} (hC : isC a) (hc : cCel a c σ) {x : Int32} {p : Nat} (hx : x = nI p) (hp : p < 2 ^ 31) : Wp miX0_holds 0 [(0, .inr (some a)), (1, .inl x)] [] σ (fun rv σ' => rv = some (.inl (bI (decide (p < 8 + c.1)))) ∧ σ' = σ) := by
  have hh6 := hc.2.1
  iterate 2 refine Wp.go rfl ?_
  refine Wp.ltN (a := p) (b := 0) hx (rfl : _ = nI 0) (by omega) (by omega) (fun (h1 : p < 0) => ?_) (fun (h1 : ¬ p < 0) => ?_)
  · refine Wp.go rfl ?_
    refine Wp.ret rfl ?_
    exact ⟨rv0 (by simp; omega), rfl⟩
  · iterate 3 refine Wp.go rfl ?_
    refine Wp.gC1 hC rfl ?_
    iterate 2 refine Wp.go rfl ?_
    refine Wp.geN (a := p) (b := 8 + c.1) hx (nE_add (rfl : _ = nI 8) (hc).1) (by omega) (by omega) (fun (h2 : ¬ p < 8 + c.1) => ?_) (fun (h2 : p < 8 + c.1) => ?_)
    · refine Wp.go rfl ?_
      refine Wp.ret rfl ?_
      exact ⟨rv0 (by simp; omega), rfl⟩
    · iterate 3 refine Wp.go rfl ?_
      refine Wp.geN (a := p) (b := 14) hx (rfl : _ = nI 14) (by omega) (by omega) (fun (h3 : ¬ p < 14) => ?_) (fun (h3 : p < 14) => ?_)
      · refine Wp.go rfl ?_
        refine Wp.ret rfl ?_
        exact ⟨rv0 (by simp; omega), rfl⟩
      · iterate 2 refine Wp.go rfl ?_
        refine Wp.ret rfl ?_
        exact ⟨rv1 (by simp; omega), rfl⟩
theorem iuA_n {F : fS} (hF : ∀ k, k < F.2.2.2.2 → F.1 k < 30) {k : Nat} : (iuA F k = (-1)) ↔ ¬ k < F.2.2.2.2 := by
  unfold iuA
  by_cases h : k < F.2.2.2.2
  · rw [if_pos h]
    constructor
    · intro q
      have := hF k h
      exfalso
      have e : ∀ n, n < 30 → ¬ nI n = (-1 : Int32) := by decide
      exact e _ this q
    · intro q; exact absurd h q
  · rw [if_neg h]; exact ⟨fun _ => h, fun _ => rfl⟩
set_option maxRecDepth 100000 in
theorem sX11_plant {K : kS} {σ : mc_G} (hK : cCls K σ) (hk : kOk K) {x y z : Int32} {u v w : Option Nat} (hu : oV x u) (hv : oV y v) (hw : oV z w) (hFi : K.2.2.2.2.2.2.1 = true → ∀ k, k < K.2.2.2.2.1.2.2.2.2 → K.2.2.2.2.1.1 k < 30) : Wp miX11_plant 0 [(0, .inr (some 0)), (1, .inl x), (2, .inl y), (3, .inl z)] [] σ (fun rv σ' => rv = some (.inl (plR K u v w).1) ∧ cCls (plR K u v w).2 σ' ∧ ofR 0 166 σ σ') := by
  have hk30 : ∀ {k : Nat}, ¬ iuA K.2.2.2.2.1 k = (-1) → k < 30 := fun {k} q => by
    have h1 := hK.2.2.2.2.2.1.2.2
    by_cases e : k < K.2.2.2.2.1.2.2.2.2
    · omega
    · exact absurd (by unfold iuA; rw [if_neg e]) q
  have hgv : ∀ {k : Nat}, ¬ iuA K.2.2.2.2.1 k = (-1) → cCel (94 + 2 * k) (K.2.2.2.2.1.2.2.2.1 k) σ := fun {k} q => (hK.2.2.2.2.2.1.1 k (hk30 q)).2.2.2
  rcases u with _ | p
  · have hx : x < 0 := hu
    rcases v with _ | q
    · have hy : y < 0 := hv
      rcases w with _ | r
      · have hz : z < 0 := hw
        iterate 3 refine Wp.go rfl ?_
        refine Wp.beqE hK.2.2.2.2.2.2.2.2.1 (fun (h1 : K.2.2.2.2.2.2.1 = false) => ?_) (fun (h1 : K.2.2.2.2.2.2.1 = true) => ?_)
        · refine Wp.go rfl ?_
          refine Wp.ret rfl ?_
          exact ⟨rfl, hK, ofR.rf⟩
        · iterate 3 refine Wp.go rfl ?_
          refine Wp.call rfl cqX3_instructionOf (sX3_instructionOf_n hx) (fun rv1 s1 hq1 => ?_)
          obtain ⟨rfl, hq1⟩ := hq1
          replace hq1 := hq1.symm
          subst hq1
          iterate 2 refine Wp.go rfl ?_
          refine Wp.eqI rfl (rfl : _ = (-1 : Int32)) (fun _ => ?_) (fun q => absurd rfl q)
          refine Wp.go rfl ?_
          refine Wp.ret rfl ?_
          exact ⟨rfl, hK, ofR.rf⟩
      · obtain ⟨hz, hlr⟩ := hw
        iterate 3 refine Wp.go rfl ?_
        refine Wp.beqE hK.2.2.2.2.2.2.2.2.1 (fun (h1 : K.2.2.2.2.2.2.1 = false) => ?_) (fun (h1 : K.2.2.2.2.2.2.1 = true) => ?_)
        · refine Wp.go rfl ?_
          refine Wp.ret rfl ?_
          exact ⟨rfl, hK, ofR.rf⟩
        · iterate 3 refine Wp.go rfl ?_
          refine Wp.call rfl cqX3_instructionOf (sX3_instructionOf_n hx) (fun rv1 s1 hq1 => ?_)
          obtain ⟨rfl, hq1⟩ := hq1
          replace hq1 := hq1.symm
          subst hq1
          iterate 2 refine Wp.go rfl ?_
          refine Wp.eqI rfl (rfl : _ = (-1 : Int32)) (fun _ => ?_) (fun q => absurd rfl q)
          refine Wp.go rfl ?_
          refine Wp.ret rfl ?_
          exact ⟨rfl, hK, ofR.rf⟩
    · obtain ⟨hy, hlq⟩ := hv
      rcases w with _ | r
      · have hz : z < 0 := hw
        iterate 3 refine Wp.go rfl ?_
        refine Wp.beqE hK.2.2.2.2.2.2.2.2.1 (fun (h1 : K.2.2.2.2.2.2.1 = false) => ?_) (fun (h1 : K.2.2.2.2.2.2.1 = true) => ?_)
        · refine Wp.go rfl ?_
          refine Wp.ret rfl ?_
          exact ⟨rfl, hK, ofR.rf⟩
        · iterate 3 refine Wp.go rfl ?_
          refine Wp.call rfl cqX3_instructionOf (sX3_instructionOf_n hx) (fun rv1 s1 hq1 => ?_)
          obtain ⟨rfl, hq1⟩ := hq1
          replace hq1 := hq1.symm
          subst hq1
          iterate 2 refine Wp.go rfl ?_
          refine Wp.eqI rfl (rfl : _ = (-1 : Int32)) (fun _ => ?_) (fun q => absurd rfl q)
          refine Wp.go rfl ?_
          refine Wp.ret rfl ?_
          exact ⟨rfl, hK, ofR.rf⟩
      · obtain ⟨hz, hlr⟩ := hw
        iterate 3 refine Wp.go rfl ?_
        refine Wp.beqE hK.2.2.2.2.2.2.2.2.1 (fun (h1 : K.2.2.2.2.2.2.1 = false) => ?_) (fun (h1 : K.2.2.2.2.2.2.1 = true) => ?_)
        · refine Wp.go rfl ?_
          refine Wp.ret rfl ?_
          exact ⟨rfl, hK, ofR.rf⟩
        · iterate 3 refine Wp.go rfl ?_
          refine Wp.call rfl cqX3_instructionOf (sX3_instructionOf_n hx) (fun rv1 s1 hq1 => ?_)
          obtain ⟨rfl, hq1⟩ := hq1
          replace hq1 := hq1.symm
          subst hq1
          iterate 2 refine Wp.go rfl ?_
          refine Wp.eqI rfl (rfl : _ = (-1 : Int32)) (fun _ => ?_) (fun q => absurd rfl q)
          refine Wp.go rfl ?_
          refine Wp.ret rfl ?_
          exact ⟨rfl, hK, ofR.rf⟩
  · obtain ⟨hx, hlp⟩ := hu
    rcases v with _ | q
    · have hy : y < 0 := hv
      rcases w with _ | r
      · have hz : z < 0 := hw
        iterate 3 refine Wp.go rfl ?_
        refine Wp.beqE hK.2.2.2.2.2.2.2.2.1 (fun (h1 : K.2.2.2.2.2.2.1 = false) => ?_) (fun (h1 : K.2.2.2.2.2.2.1 = true) => ?_)
        · refine Wp.go rfl ?_
          refine Wp.ret rfl ?_
          exact ⟨rfl, hK, ofR.rf⟩
        · iterate 3 refine Wp.go rfl ?_
          refine Wp.call rfl cqX3_instructionOf (sX3_instructionOf hK.2.2.2.2.2.1 hx (by omega)) (fun rv1 s1 hq1 => ?_)
          obtain ⟨rfl, hq1⟩ := hq1
          replace hq1 := hq1.symm
          subst hq1
          iterate 2 refine Wp.go rfl ?_
          refine Wp.eqI rfl (rfl : _ = (-1 : Int32)) (fun (h2 : iuA K.2.2.2.2.1 p = (-1)) => ?_) (fun (h2 : ¬ iuA K.2.2.2.2.1 p = (-1)) => ?_)
          · refine Wp.go rfl ?_
            refine Wp.ret rfl ?_
            exact ⟨rfl, hK, ofR.rf⟩
          · iterate 3 refine Wp.go rfl ?_
            refine Wp.call rfl cqX9_isPlain (sX9_isPlain_n hK.1 hk.1 hz) (fun rv2 s2 hq2 => ?_)
            obtain ⟨rfl, hq2⟩ := hq2
            replace hq2 := hq2.symm
            subst hq2
            refine Wp.go rfl ?_
            refine Wp.bneE (b := false) rfl (fun q => by cases q) (fun _ => ?_)
            refine Wp.go rfl ?_
            refine Wp.ret rfl ?_
            exact ⟨rfl, hK, ofR.rf⟩
      · obtain ⟨hz, hlr⟩ := hw
        iterate 3 refine Wp.go rfl ?_
        refine Wp.beqE hK.2.2.2.2.2.2.2.2.1 (fun (h1 : K.2.2.2.2.2.2.1 = false) => ?_) (fun (h1 : K.2.2.2.2.2.2.1 = true) => ?_)
        · refine Wp.go rfl ?_
          refine Wp.ret rfl ?_
          exact ⟨rfl, hK, ofR.rf⟩
        · iterate 3 refine Wp.go rfl ?_
          refine Wp.call rfl cqX3_instructionOf (sX3_instructionOf hK.2.2.2.2.2.1 hx (by omega)) (fun rv1 s1 hq1 => ?_)
          obtain ⟨rfl, hq1⟩ := hq1
          replace hq1 := hq1.symm
          subst hq1
          iterate 2 refine Wp.go rfl ?_
          refine Wp.eqI rfl (rfl : _ = (-1 : Int32)) (fun (h2 : iuA K.2.2.2.2.1 p = (-1)) => ?_) (fun (h2 : ¬ iuA K.2.2.2.2.1 p = (-1)) => ?_)
          · refine Wp.go rfl ?_
            refine Wp.ret rfl ?_
            exact ⟨rfl, hK, ofR.rf⟩
          · iterate 3 refine Wp.go rfl ?_
            refine Wp.call rfl cqX9_isPlain (sX9_isPlain hK.1 hk.1 hz (by omega)) (fun rv2 s2 hq2 => ?_)
            obtain ⟨rfl, hq2⟩ := hq2
            replace hq2 := hq2.symm
            subst hq2
            refine Wp.go rfl ?_
            refine Wp.bneE rfl (fun (h3 : (plK K.1 r) = true) => ?_) (fun (h3 : (plK K.1 r) = false) => ?_)
            · iterate 3 refine Wp.go rfl ?_
              refine Wp.call rfl cqX3_given (sX3_given hx (hk30 h2)) (fun rv3 s3 hq3 => ?_)
              obtain ⟨rfl, hq3⟩ := hq3
              replace hq3 := hq3.symm
              subst hq3
              iterate 3 refine Wp.go rfl ?_
              refine Wp.call (if_pos ⟨((isC_giv (hk30 h2))).1, ((isC_giv (hk30 h2))).2.1, Nat.le_of_ble_eq_true rfl, Nat.le_of_ble_eq_true rfl⟩) cqX0_holds (sX0_holds_n (isC_giv (hk30 h2)) (hgv h2) hy) (fun rv4 s4 hq4 => ?_)
              obtain ⟨rfl, hq4⟩ := hq4
              replace hq4 := hq4.symm
              subst hq4
              refine Wp.go rfl ?_
              refine Wp.bneE (b := false) rfl (fun q => by cases q) (fun _ => ?_)
              refine Wp.go rfl ?_
              refine Wp.ret rfl ?_
              exact ⟨rfl, hK, ofR.rf⟩
            · refine Wp.go rfl ?_
              refine Wp.ret rfl ?_
              exact ⟨rfl, hK, ofR.rf⟩
    · obtain ⟨hy, hlq⟩ := hv
      rcases w with _ | r
      · have hz : z < 0 := hw
        iterate 3 refine Wp.go rfl ?_
        refine Wp.beqE hK.2.2.2.2.2.2.2.2.1 (fun (h1 : K.2.2.2.2.2.2.1 = false) => ?_) (fun (h1 : K.2.2.2.2.2.2.1 = true) => ?_)
        · refine Wp.go rfl ?_
          refine Wp.ret rfl ?_
          exact ⟨rfl, hK, ofR.rf⟩
        · iterate 3 refine Wp.go rfl ?_
          refine Wp.call rfl cqX3_instructionOf (sX3_instructionOf hK.2.2.2.2.2.1 hx (by omega)) (fun rv1 s1 hq1 => ?_)
          obtain ⟨rfl, hq1⟩ := hq1
          replace hq1 := hq1.symm
          subst hq1
          iterate 2 refine Wp.go rfl ?_
          refine Wp.eqI rfl (rfl : _ = (-1 : Int32)) (fun (h2 : iuA K.2.2.2.2.1 p = (-1)) => ?_) (fun (h2 : ¬ iuA K.2.2.2.2.1 p = (-1)) => ?_)
          · refine Wp.go rfl ?_
            refine Wp.ret rfl ?_
            exact ⟨rfl, hK, ofR.rf⟩
          · iterate 3 refine Wp.go rfl ?_
            refine Wp.call rfl cqX9_isPlain (sX9_isPlain_n hK.1 hk.1 hz) (fun rv2 s2 hq2 => ?_)
            obtain ⟨rfl, hq2⟩ := hq2
            replace hq2 := hq2.symm
            subst hq2
            refine Wp.go rfl ?_
            refine Wp.bneE (b := false) rfl (fun q => by cases q) (fun _ => ?_)
            refine Wp.go rfl ?_
            refine Wp.ret rfl ?_
            exact ⟨rfl, hK, ofR.rf⟩
      · obtain ⟨hz, hlr⟩ := hw
        iterate 3 refine Wp.go rfl ?_
        refine Wp.beqE hK.2.2.2.2.2.2.2.2.1 (fun (h1 : K.2.2.2.2.2.2.1 = false) => ?_) (fun (h1 : K.2.2.2.2.2.2.1 = true) => ?_)
        · refine Wp.go rfl ?_
          refine Wp.ret rfl ?_
          have e1 : plR K (some p) (some q) (some r) = (-2, K) := by show (if _ then _ else _) = _; rw [if_neg (by rintro ⟨a1, a2, a3, a4, a5⟩; first | exact hct a2 | omega | (have ek : kA (K.2.2.2.2.1.2.2.2.1 p) q = (K.2.2.2.2.1.2.2.2.1 p).2 q := if_pos a4; omega) | (simp_all; done))]
          rw [e1]
          exact ⟨rfl, hK, ofR.rf⟩
        · iterate 3 refine Wp.go rfl ?_
          refine Wp.call rfl cqX3_instructionOf (sX3_instructionOf hK.2.2.2.2.2.1 hx (by omega)) (fun rv1 s1 hq1 => ?_)
          obtain ⟨rfl, hq1⟩ := hq1
          replace hq1 := hq1.symm
          subst hq1
          iterate 2 refine Wp.go rfl ?_
          refine Wp.eqI rfl (rfl : _ = (-1 : Int32)) (fun (h2 : iuA K.2.2.2.2.1 p = (-1)) => ?_) (fun (h2 : ¬ iuA K.2.2.2.2.1 p = (-1)) => ?_)
          · refine Wp.go rfl ?_
            refine Wp.ret rfl ?_
            have hmd := h1
            have hct := (iuA_n (hFi hmd)).mp h2
            have e1 : plR K (some p) (some q) (some r) = (-2, K) := by show (if _ then _ else _) = _; rw [if_neg (by rintro ⟨a1, a2, a3, a4, a5⟩; first | exact hct a2 | omega | (have ek : kA (K.2.2.2.2.1.2.2.2.1 p) q = (K.2.2.2.2.1.2.2.2.1 p).2 q := if_pos a4; omega) | (simp_all; done))]
            rw [e1]
            exact ⟨rfl, hK, ofR.rf⟩
          · iterate 3 refine Wp.go rfl ?_
            refine Wp.call rfl cqX9_isPlain (sX9_isPlain hK.1 hk.1 hz (by omega)) (fun rv2 s2 hq2 => ?_)
            obtain ⟨rfl, hq2⟩ := hq2
            replace hq2 := hq2.symm
            subst hq2
            refine Wp.go rfl ?_
            refine Wp.bneE rfl (fun (h3 : (plK K.1 r) = true) => ?_) (fun (h3 : (plK K.1 r) = false) => ?_)
            · iterate 3 refine Wp.go rfl ?_
              refine Wp.call rfl cqX3_given (sX3_given hx (hk30 h2)) (fun rv3 s3 hq3 => ?_)
              obtain ⟨rfl, hq3⟩ := hq3
              replace hq3 := hq3.symm
              subst hq3
              iterate 3 refine Wp.go rfl ?_
              refine Wp.call (if_pos ⟨((isC_giv (hk30 h2))).1, ((isC_giv (hk30 h2))).2.1, Nat.le_of_ble_eq_true rfl, Nat.le_of_ble_eq_true rfl⟩) cqX0_holds (sX0_holds' (isC_giv (hk30 h2)) (hgv h2) hy (by omega)) (fun rv4 s4 hq4 => ?_)
              obtain ⟨rfl, hq4⟩ := hq4
              replace hq4 := hq4.symm
              subst hq4
              refine Wp.go rfl ?_
              refine Wp.bneD (p := q < 8 + (K.2.2.2.2.1.2.2.2.1 p).1) rfl (fun (h4 : q < 8 + (K.2.2.2.2.1.2.2.2.1 p).1) => ?_) (fun (h4 : ¬ (q < 8 + (K.2.2.2.2.1.2.2.2.1 p).1)) => ?_)
              · iterate 2 refine Wp.go rfl ?_
                refine Wp.call (if_pos ⟨((isC_giv (hk30 h2))).1, ((isC_giv (hk30 h2))).2.1, Nat.le_of_ble_eq_true rfl, Nat.le_of_ble_eq_true rfl⟩) cqX0_kindAt (sX0_kindAt (isC_giv (hk30 h2)) (hgv h2) hy (by have := (hgv h2).2.1; omega)) (fun rv5 s5 hq5 => ?_)
                obtain ⟨rfl, hq5⟩ := hq5
                replace hq5 := hq5.symm
                subst hq5
                iterate 4 refine Wp.go rfl ?_
                refine Wp.eqN (a := kA (K.2.2.2.2.1.2.2.2.1 p) q) (b := 2) rfl (rfl : _ = nI 2) (by first | omega | (have := kA_lt (hgv (by assumption)) q; omega)) (by first | omega | (have := kA_lt (hgv (by assumption)) q; omega)) (fun (h5 : kA (K.2.2.2.2.1.2.2.2.1 p) q = 2) => ?_) (fun (h5 : ¬ kA (K.2.2.2.2.1.2.2.2.1 p) q = 2) => ?_)
                · refine Wp.go rfl ?_
                  refine Wp.ret rfl ?_
                  have hmd := h1
                  have hct := Classical.not_not.mp (fun q => h2 ((iuA_n (hFi hmd)).mpr q))
                  have e1 : plR K (some p) (some q) (some r) = (-2, K) := by show (if _ then _ else _) = _; rw [if_neg (by rintro ⟨a1, a2, a3, a4, a5⟩; first | exact hct a2 | omega | (have ek : kA (K.2.2.2.2.1.2.2.2.1 p) q = (K.2.2.2.2.1.2.2.2.1 p).2 q := if_pos a4; omega) | (simp_all; done))]
                  rw [e1]
                  exact ⟨rfl, hK, ofR.rf⟩
                · iterate 3 refine Wp.go rfl ?_
                  refine Wp.neN (a := kA (K.2.2.2.2.1.2.2.2.1 p) q) (b := 3) rfl (rfl : _ = nI 3) (by first | omega | (have := kA_lt (hgv (by assumption)) q; omega)) (by first | omega | (have := kA_lt (hgv (by assumption)) q; omega)) (fun (h6 : ¬ kA (K.2.2.2.2.1.2.2.2.1 p) q = 3) => ?_) (fun (h6 : kA (K.2.2.2.2.1.2.2.2.1 p) q = 3) => ?_)
                  · iterate 3 refine Wp.go rfl ?_
                    refine Wp.call (if_pos ⟨((isC_giv (hk30 h2))).1, ((isC_giv (hk30 h2))).2.1, Nat.le_of_ble_eq_true rfl, Nat.le_of_ble_eq_true rfl⟩) cqX0_put (sX0_put (isC_giv (hk30 h2)) (hgv h2) hy (by have := (hgv h2).2.1; omega) hz (by have := hk.1.2.1; simp [plK, rfK, thK] at *; omega)) (fun rv6 s6 hq6 => ?_)
                    obtain ⟨rfl, hc6, ho6⟩ := hq6
                    refine Wp.go rfl ?_
                    refine Wp.ret rfl ?_
                    have hmd := h1
                    have hct := Classical.not_not.mp (fun q => h2 ((iuA_n (hFi hmd)).mpr q))
                    have ek : kA (K.2.2.2.2.1.2.2.2.1 p) q = (K.2.2.2.2.1.2.2.2.1 p).2 q := if_pos h4
                    have e1 : (plR K (some p) (some q) (some r)) = (nI ((K.2.2.2.2.1.2.2.2.1 p).2 q), kF K (K.2.2.2.2.1.1, K.2.2.2.2.1.2.1, K.2.2.2.2.1.2.2.1, va_up K.2.2.2.2.1.2.2.2.1 p (ptA (K.2.2.2.2.1.2.2.2.1 p) q r), K.2.2.2.2.1.2.2.2.2)) := by show (if _ then _ else _) = _; rw [if_pos (by refine ⟨hmd, hct, by assumption, h4, ?_⟩; rw [← ek]; omega)]
                    rw [e1]
                    have hg := hK.2.2.2.2.2.1.giv (hk30 h2) ho6 hc6
                    exact ⟨by rw [ek], hK.frm hg.2.r hg.1, hg.2.r.wi (by decide) (by decide)⟩
                  · refine Wp.go rfl ?_
                    refine Wp.ret rfl ?_
                    have hmd := h1
                    have hct := Classical.not_not.mp (fun q => h2 ((iuA_n (hFi hmd)).mpr q))
                    have e1 : plR K (some p) (some q) (some r) = (-2, K) := by show (if _ then _ else _) = _; rw [if_neg (by rintro ⟨a1, a2, a3, a4, a5⟩; first | exact hct a2 | omega | (have ek : kA (K.2.2.2.2.1.2.2.2.1 p) q = (K.2.2.2.2.1.2.2.2.1 p).2 q := if_pos a4; omega) | (simp_all; done))]
                    rw [e1]
                    exact ⟨rfl, hK, ofR.rf⟩
              · refine Wp.go rfl ?_
                refine Wp.ret rfl ?_
                have hmd := h1
                have hct := Classical.not_not.mp (fun q => h2 ((iuA_n (hFi hmd)).mpr q))
                have e1 : plR K (some p) (some q) (some r) = (-2, K) := by show (if _ then _ else _) = _; rw [if_neg (by rintro ⟨a1, a2, a3, a4, a5⟩; first | exact hct a2 | omega | (have ek : kA (K.2.2.2.2.1.2.2.2.1 p) q = (K.2.2.2.2.1.2.2.2.1 p).2 q := if_pos a4; omega) | (simp_all; done))]
                rw [e1]
                exact ⟨rfl, hK, ofR.rf⟩
            · refine Wp.go rfl ?_
              refine Wp.ret rfl ?_
              have hmd := h1
              have hct := Classical.not_not.mp (fun q => h2 ((iuA_n (hFi hmd)).mpr q))
              have e1 : plR K (some p) (some q) (some r) = (-2, K) := by show (if _ then _ else _) = _; rw [if_neg (by rintro ⟨a1, a2, a3, a4, a5⟩; first | exact hct a2 | omega | (have ek : kA (K.2.2.2.2.1.2.2.2.1 p) q = (K.2.2.2.2.1.2.2.2.1 p).2 q := if_pos a4; omega) | (simp_all; done))]
              rw [e1]
              exact ⟨rfl, hK, ofR.rf⟩
set_option maxRecDepth 100000 in
theorem sX11_judge {K : kS} {σ : mc_G} (hK : cCls K σ) (hk : kOk K) {Iv : Nat → jS → Prop} (hFo : K.2.2.2.2.2.2.1 = true → fOk K.2.2.2.2.1) (hI1 : ∀ k J, Iv k J → k < pn K.2.1 → (jtA K.1 (pn K.2.1) K.2.2.2.2.1 J k).1 = true → (jtA K.1 (pn K.2.1) K.2.2.2.2.1 J k).2.2 = true → (opA K.2.1 k = 13 → suA K.1 (opA K.2.1 k) (nuN K.2.1 k) (jtA K.1 (pn K.2.1) K.2.2.2.2.1 J k).2.1 = true → nuA K.2.1 (tpA (jtA K.1 (pn K.2.1) K.2.2.2.2.1 J k).2.1 0 - 200) = nI (tyA K.2.1 (jtA K.1 (pn K.2.1) K.2.2.2.2.1 J k).2.1) ∧ tyA K.2.1 (jtA K.1 (pn K.2.1) K.2.2.2.2.1 J k).2.1 < 8 ∧ 200 ≤ tpA (jtA K.1 (pn K.2.1) K.2.2.2.2.1 J k).2.1 0) ∧ ((jpA K.2.1 K.1 K.2.2.2.2.1 (jtA K.1 (pn K.2.1) K.2.2.2.2.1 J k).2 k).1 = true → Iv (k + 1) (jpA K.2.1 K.1 K.2.2.2.2.1 (jtA K.1 (pn K.2.1) K.2.2.2.2.1 J k).2 k).2)) (hI2 : ∀ k J, Iv k J → k < pn K.2.1 → (jtA K.1 (pn K.2.1) K.2.2.2.2.1 J k).1 = true → (jtA K.1 (pn K.2.1) K.2.2.2.2.1 J k).2.2 = false → Iv (k + 1) (jtA K.1 (pn K.2.1) K.2.2.2.2.1 J k).2) (hv : K.2.2.2.2.2.2.1 = true → Iv 0 (K.2.2.1, true)) : Wp miX11_judge 0 [(0, .inr (some 0))] [] σ (fun rv σ' => rv = some (.inl (if K.2.2.2.2.2.2.1 = true then jwF K.2.1 K.1 K.2.2.2.2.1 (pn K.2.1) 0 (K.2.2.1, true) else -2)) ∧ cCls K σ' ∧ ofR 0 166 σ σ') := by
  iterate 3 refine Wp.go rfl ?_
  refine Wp.beqE (b := K.2.2.2.2.2.2.1) hK.2.2.2.2.2.2.2.2.1 (fun h1 => ?_) (fun h1 => ?_)
  · rw [if_neg (by rw [h1]; decide)]
    refine Wp.go rfl ?_
    refine Wp.ret rfl ?_
    exact ⟨rfl, hK, ofR.rf⟩
  · rw [if_pos h1]
    iterate 4 refine Wp.go rfl ?_
    refine Wp.call rfl cqX4_firstWrong (sX4_firstWrong hk.2.1 hk.1 (hFo h1) hk.2.2.1 hk.2.2.2.1 hk.2.2.2.2.1 hI1 hI2 hK.2.1 hK.1 hK.2.2.2.2.2.1 hK.2.2.2.2.2.2.2.2.2.2 hK.2.2.2.2.2.2.2.1.choose_spec hK.2.2.1 (hv h1)) (fun rv1 s1 hq1 => ?_)
    obtain ⟨rfl, ⟨J, hJ⟩, ho1⟩ := hq1
    refine Wp.go rfl ?_
    refine Wp.ret rfl ?_
    exact ⟨rfl, hK.jud ho1.r hJ, ho1.r.wi (by decide) (by decide)⟩

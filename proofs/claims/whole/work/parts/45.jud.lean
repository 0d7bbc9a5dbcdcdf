/-! the judge: what is at hand, and whether anything is -/
abbrev jS : Type := cS × Bool
def cJud (J : jS) (σ : mc_G) : Prop := cCel 163 J.1 σ ∧ (∃ e, cCel 165 e σ) ∧ σ 162 6 = bI J.2
def offJ (σ σ' : mc_G) : Prop := ∀ b, (b < 162 ∨ 166 < b) → σ' b = σ b
theorem offJ.rf {σ : mc_G} : offJ σ σ := fun _ _ => rfl
theorem offJ.tr {σ σ1 σ2 : mc_G} (h : offJ σ σ1) (k : offJ σ1 σ2) : offJ σ σ2 := fun b h1 => (k b h1).trans (h b h1)
theorem cCode.oJ {P : pT} {σ σ' : mc_G} (h : cCode P σ) (o : offJ σ σ') : cCode P σ' := h.to (fun b h1 h2 => o b (by omega))
theorem cTyp.oJ {T : tT} {σ σ' : mc_G} (h : cTyp T σ) (o : offJ σ σ') : cTyp T σ' := h.to (fun b h1 h2 => o b (by omega))
theorem cSta.oJ {σ σ' : mc_G} (h : cSta σ) (o : offJ σ σ') : cSta σ' := fun k hk => by rw [o 1000 (by decide), o 1001 (by decide)]; exact h k hk
theorem cFrm.oJ {F : fS} {σ σ' : mc_G} (h : cFrm F σ) (o : offJ σ σ') : cFrm F σ' :=
  ⟨fun i hi => ⟨by rw [o 87 (by decide)]; exact (h.1 i hi).1, by rw [o 88 (by decide)]; exact (h.1 i hi).2.1, by rw [o 89 (by decide)]; exact (h.1 i hi).2.2.1, (h.1 i hi).2.2.2.to (o _ (by omega)) (o _ (by omega))⟩, by rw [o 86 (by decide)]; exact h.2.1, h.2.2⟩
theorem cJud.hnd {J : jS} {σ σ' : mc_G} {c : cS} (h : cJud J σ) (ho : offC 163 σ σ') (hc : cCel 163 c σ') : cJud (c, J.2) σ' ∧ offJ σ σ' :=
  ⟨⟨hc, ⟨_, h.2.1.choose_spec.off ho ⟨by decide, by decide, by decide⟩⟩, by rw [ho 162 (by decide) (by decide)]; exact h.2.2⟩, fun b hb => ho b (by omega) (by omega)⟩
theorem cJud.cau {J : jS} {σ σ' : mc_G} {c : cS} (h : cJud J σ) (ho : offC 165 σ σ') (hc : cCel 165 c σ') : cJud J σ' ∧ offJ σ σ' :=
  ⟨⟨h.1.off ho ⟨by decide, by decide, by decide⟩, ⟨_, hc⟩, by rw [ho 162 (by decide) (by decide)]; exact h.2.2⟩, fun b hb => ho b (by omega) (by omega)⟩
theorem cJud.ath {J : jS} {σ : mc_G} {v : Int32} {b : Bool} (h : cJud J σ) (hv : v = bI b) : cJud (J.1, b) (mc_up σ 162 6 v) ∧ offJ σ (mc_up σ 162 6 v) :=
  ⟨⟨h.1.to (mc_upn _ _ _ (by decide)) (mc_upn _ _ _ (by decide)), ⟨_, h.2.1.choose_spec.to (mc_upn _ _ _ (by decide)) (mc_upn _ _ _ (by decide))⟩, by rw [mc_upa]; simpa using hv⟩, fun b hb => mc_upn _ _ _ (by omega)⟩
def fOk (F : fS) : Prop := ∀ j, ¬ F.2.1 j = -1 → F.2.1 j = nI (F.2.1 j).toNatClampNeg ∧ (F.2.1 j).toNatClampNeg < 30
def fno (n : Nat) (F : fS) (j : Nat) : Nat := (nmA n F j).toNatClampNeg
def gvF (n : Nat) (F : fS) (j : Nat) : cS := F.2.2.2.1 (fno n F j)
theorem fOk.a {F : fS} (h : fOk F) {n j : Nat} (hn : ¬ nmA n F j = -1) : nmA n F j = nI (fno n F j) ∧ fno n F j < 30 := by
  unfold fno
  unfold nmA at *
  by_cases e : j < n
  · rw [if_pos e] at hn ⊢; exact h j hn
  · rw [if_neg e] at hn; exact absurd rfl hn
def jfA (T : tT) (n : Nat) (F : fS) (j : Nat) (e : cS) : Bool := if nmA n F j = -1 then false else sfA T e (gvF n F j)
def jtA (T : tT) (n : Nat) (F : fS) (J : jS) (j : Nat) : Bool × jS := if nmA n F j = -1 then (true, J) else (!J.2 || sfA T J.1 (gvF n F j), (gvF n F j, true))
def jpA (P : pT) (T : tT) (F : fS) (J : jS) (k : Nat) : Bool × jS := if suA T (opA P k) (nuN P k) J.1 = true then (!juA P k || jfA T (pn P) F (nuN P k) (wkA (opA P k) (nuN P k) k (tyA P J.1) J.1), (wkA (opA P k) (nuN P k) k (tyA P J.1) J.1, goA P k)) else (false, J)
def jhS (P : pT) (T : tT) (F : fS) (J : jS) (k : Nat) (b : Bool) (j : Nat) : Bool := if cvA P j k = true then b && jfA T (pn P) F (qa P j) (1, va_up J.1.2 8 (100 + qk P j)) else b
def jhA (P : pT) (T : tT) (F : fS) (J : jS) (k : Nat) : Bool := foR (jhS P T F J k) (qn P) 0 true
def jwF (P : pT) (T : tT) (F : fS) : Nat → Nat → jS → Int32
  | 0, _, _ => -1
  | n + 1, k, J => if (jtA T (pn P) F J k).1 = true then
      (if (jtA T (pn P) F J k).2.2 = true then
        (if jhA P T F (jtA T (pn P) F J k).2 k = true then
          (if (jpA P T F (jtA T (pn P) F J k).2 k).1 = true then jwF P T F n (k + 1) (jpA P T F (jtA T (pn P) F J k).2 k).2 else nI k)
        else nI k)
      else jwF P T F n (k + 1) (jtA T (pn P) F J k).2)
    else nI k
set_option maxRecDepth 100000 in
theorem sX4_fitsFrameOf {P : pT} {T : tT} {F : fS} (hO1 : pn P ≤ 30 ∧ qn P ≤ 4) (hO : tOk T) (hFo : fOk F) {σ : mc_G} (hP : cCode P σ) (hT : cTyp T σ) (hF : cFrm F σ) {x : Int32} {k : Nat} (hx : x = nI k) (hk : k ≤ 30) {d : Nat} {e : cS} (hC : isC d) (hc : cCel d e σ) : Wp miX4_fitsFrameOf 0 [(0, .inr (some 162)), (1, .inl x), (2, .inr (some d))] [] σ (fun rv σ' => rv = some (.inl (bI (jfA T (pn P) F k e))) ∧ σ' = σ) := by
  iterate 3 refine Wp.go rfl ?_
  refine Wp.call rfl cqX3_numberAt (sX3_numberAt hP hO1 hF hx (by omega)) (fun rv1 s1 hq1 => ?_)
  obtain ⟨rfl, hq1⟩ := hq1
  replace hq1 := hq1.symm
  subst hq1
  iterate 4 refine Wp.go rfl ?_
  refine Wp.eqI rfl (rfl : _ = (-1 : Int32)) (fun (h1 : nmA (pn P) F k = (-1)) => ?_) (fun (h1 : ¬ nmA (pn P) F k = (-1)) => ?_)
  · refine Wp.go rfl ?_
    refine Wp.ret rfl ?_
    refine ⟨?_, rfl⟩
    unfold jfA
    rw [if_pos h1]
    rfl
  · iterate 4 refine Wp.go rfl ?_
    refine Wp.call rfl cqX3_given (sX3_given (hFo.a h1).1 (hFo.a h1).2) (fun rv2 s2 hq2 => ?_)
    obtain ⟨rfl, hq2⟩ := hq2
    replace hq2 := hq2.symm
    subst hq2
    iterate 2 refine Wp.go rfl ?_
    refine Wp.call (if_pos ⟨(hC).1, (hC).2.1, Nat.le_of_ble_eq_true rfl, Nat.le_of_ble_eq_true rfl⟩) cqX0_allStandFor (sX0_allStandFor hT hO hC (isC_giv (hFo.a h1).2) (hc) (((hF).1 _ (hFo.a h1).2).2.2.2)) (fun rv3 s3 hq3 => ?_)
    obtain ⟨rfl, hq3⟩ := hq3
    replace hq3 := hq3.symm
    subst hq3
    refine Wp.go rfl ?_
    refine Wp.beqE rfl (fun (h2 : (sfA T e (gvF (pn P) F k)) = false) => ?_) (fun (h2 : (sfA T e (gvF (pn P) F k)) = true) => ?_)
    · refine Wp.go rfl ?_
      refine Wp.ret rfl ?_
      refine ⟨?_, rfl⟩
      unfold jfA
      rw [if_neg h1, h2]
      rfl
    · iterate 2 refine Wp.go rfl ?_
      refine Wp.ret rfl ?_
      refine ⟨?_, rfl⟩
      unfold jfA
      rw [if_neg h1, h2]
      rfl
set_option maxRecDepth 100000 in
theorem sX4_takesFrame {P : pT} {T : tT} {F : fS} (hO1 : pn P ≤ 30 ∧ qn P ≤ 4) (hO : tOk T) (hFo : fOk F) {σ : mc_G} (hP : cCode P σ) (hT : cTyp T σ) (hF : cFrm F σ) {x : Int32} {k : Nat} (hx : x = nI k) (hk : k ≤ 30) {J : jS} (hJ : cJud J σ) : Wp miX4_takesFrame 0 [(0, .inr (some 162)), (1, .inl x)] [] σ (fun rv σ' => rv = some (.inl (bI (jtA T (pn P) F J k).1)) ∧ cJud (jtA T (pn P) F J k).2 σ' ∧ offJ σ σ') := by
  iterate 3 refine Wp.go rfl ?_
  refine Wp.call rfl cqX3_numberAt (sX3_numberAt hP hO1 hF hx (by omega)) (fun rv1 s1 hq1 => ?_)
  obtain ⟨rfl, hq1⟩ := hq1
  replace hq1 := hq1.symm
  subst hq1
  iterate 4 refine Wp.go rfl ?_
  refine Wp.neI rfl (rfl : _ = (-1 : Int32)) (fun (h1 : ¬ nmA (pn P) F k = (-1)) => ?_) (fun (h1 : nmA (pn P) F k = (-1)) => ?_)
  · iterate 3 refine Wp.go rfl ?_
    refine Wp.beqE (hJ).2.2 (fun (h2 : J.2 = false) => ?_) (fun (h2 : J.2 = true) => ?_)
    · iterate 8 refine Wp.go rfl ?_
      refine Wp.call rfl cqX3_given (sX3_given (hFo.a h1).1 (hFo.a h1).2) (fun rv2 s2 hq2 => ?_)
      obtain ⟨rfl, hq2⟩ := hq2
      replace hq2 := hq2.symm
      subst hq2
      refine Wp.call rfl cqX0_becomeLike (sX0_becomeLike isC_163 (isC_giv (hFo.a h1).2) (hJ).1 (((hF).1 _ (hFo.a h1).2).2.2.2) ⟨by have := (hFo.a h1).2; omega, by have := (hFo.a h1).2; omega, by have := (hFo.a h1).2; omega⟩) (fun rv3 s3 hq3 => ?_)
      obtain ⟨rfl, hc3, ho3⟩ := hq3
      have hg3 := (hJ).hnd ho3 hc3
      iterate 2 refine Wp.go rfl ?_
      refine Wp.go rfl ?_
      refine Wp.go rfl ?_
      refine Wp.ret rfl ?_
      have e1 : jtA T (pn P) F J k = (true, (gvF (pn P) F k, true)) := by unfold jtA; rw [if_neg h1, h2]; rfl
      rw [e1]
      exact ⟨rfl, ((hg3.1).ath (rfl : _ = bI true)).1, ((offJ.rf).tr hg3.2).tr ((hg3.1).ath (rfl : _ = bI true)).2⟩
    · iterate 5 refine Wp.go rfl ?_
      refine Wp.call rfl cqX3_given (sX3_given (hFo.a h1).1 (hFo.a h1).2) (fun rv4 s4 hq4 => ?_)
      obtain ⟨rfl, hq4⟩ := hq4
      replace hq4 := hq4.symm
      subst hq4
      iterate 2 refine Wp.go rfl ?_
      refine Wp.call rfl cqX0_allStandFor (sX0_allStandFor hT hO isC_163 (isC_giv (hFo.a h1).2) ((hJ).1) (((hF).1 _ (hFo.a h1).2).2.2.2)) (fun rv5 s5 hq5 => ?_)
      obtain ⟨rfl, hq5⟩ := hq5
      replace hq5 := hq5.symm
      subst hq5
      refine Wp.go rfl ?_
      refine Wp.beqE rfl (fun (h3 : (sfA T J.1 (gvF (pn P) F k)) = false) => ?_) (fun (h3 : (sfA T J.1 (gvF (pn P) F k)) = true) => ?_)
      · iterate 7 refine Wp.go rfl ?_
        refine Wp.call rfl cqX3_given (sX3_given (hFo.a h1).1 (hFo.a h1).2) (fun rv6 s6 hq6 => ?_)
        obtain ⟨rfl, hq6⟩ := hq6
        replace hq6 := hq6.symm
        subst hq6
        refine Wp.call rfl cqX0_becomeLike (sX0_becomeLike isC_163 (isC_giv (hFo.a h1).2) (hJ).1 (((hF).1 _ (hFo.a h1).2).2.2.2) ⟨by have := (hFo.a h1).2; omega, by have := (hFo.a h1).2; omega, by have := (hFo.a h1).2; omega⟩) (fun rv7 s7 hq7 => ?_)
        obtain ⟨rfl, hc7, ho7⟩ := hq7
        have hg7 := (hJ).hnd ho7 hc7
        iterate 2 refine Wp.go rfl ?_
        refine Wp.go rfl ?_
        refine Wp.go rfl ?_
        refine Wp.ret rfl ?_
        have e1 : jtA T (pn P) F J k = (false, (gvF (pn P) F k, true)) := by unfold jtA; rw [if_neg h1, h2, h3]; rfl
        rw [e1]
        exact ⟨rfl, ((hg7.1).ath (rfl : _ = bI true)).1, ((offJ.rf).tr hg7.2).tr ((hg7.1).ath (rfl : _ = bI true)).2⟩
      · iterate 8 refine Wp.go rfl ?_
        refine Wp.call rfl cqX3_given (sX3_given (hFo.a h1).1 (hFo.a h1).2) (fun rv8 s8 hq8 => ?_)
        obtain ⟨rfl, hq8⟩ := hq8
        replace hq8 := hq8.symm
        subst hq8
        refine Wp.call rfl cqX0_becomeLike (sX0_becomeLike isC_163 (isC_giv (hFo.a h1).2) (hJ).1 (((hF).1 _ (hFo.a h1).2).2.2.2) ⟨by have := (hFo.a h1).2; omega, by have := (hFo.a h1).2; omega, by have := (hFo.a h1).2; omega⟩) (fun rv9 s9 hq9 => ?_)
        obtain ⟨rfl, hc9, ho9⟩ := hq9
        have hg9 := (hJ).hnd ho9 hc9
        iterate 2 refine Wp.go rfl ?_
        refine Wp.go rfl ?_
        refine Wp.go rfl ?_
        refine Wp.ret rfl ?_
        have e1 : jtA T (pn P) F J k = (true, (gvF (pn P) F k, true)) := by unfold jtA; rw [if_neg h1, h2, h3]; rfl
        rw [e1]
        exact ⟨rfl, ((hg9.1).ath (rfl : _ = bI true)).1, ((offJ.rf).tr hg9.2).tr ((hg9.1).ath (rfl : _ = bI true)).2⟩
  · refine Wp.go rfl ?_
    refine Wp.ret rfl ?_
    have e1 : jtA T (pn P) F J k = (true, J) := by unfold jtA; rw [if_pos h1]
    rw [e1]
    exact ⟨rfl, hJ, offJ.rf⟩
set_option maxRecDepth 100000 in
theorem sX4_passes {P : pT} {T : tT} {F : fS} (hO1 : pn P ≤ 30 ∧ qn P ≤ 4) (hO : tOk T) (hFo : fOk F) (hp20 : ∀ k, k < pn P → po P k ≤ 20) (hB : ∀ j, j < qn P → qf P j < qt P j ∧ qt P j ≤ 30 ∧ qa P j < 30 ∧ qk P j < 8) (hN : pNum P) {σ : mc_G} (hP : cCode P σ) (hT : cTyp T σ) (hF : cFrm F σ) (hA : cSta σ) {x : Int32} {k : Nat} (hx : x = nI k) (hk : k < 30) {J : jS} (hJ : cJud J σ) (h13 : opA P k = 13 → suA T (opA P k) (nuN P k) J.1 = true → nuA P (tpA J.1 0 - 200) = nI (tyA P J.1) ∧ tyA P J.1 < 8 ∧ 200 ≤ tpA J.1 0) : Wp miX4_passes 0 [(0, .inr (some 162)), (1, .inl x)] [] σ (fun rv σ' => rv = some (.inl (bI (jpA P T F J k).1)) ∧ cJud (jpA P T F J k).2 σ' ∧ offJ σ σ') := by
  iterate 5 refine Wp.go rfl ?_
  refine Wp.call rfl cqX5_suits (sX5_suits hP hO1 hp20 hT hO isC_163 (hJ).1 hx (by omega) (hN.1 k)) (fun rv1 s1 hq1 => ?_)
  obtain ⟨rfl, hq1⟩ := hq1
  replace hq1 := hq1.symm
  subst hq1
  refine Wp.go rfl ?_
  refine Wp.bneE rfl (fun (h1 : (suA T (opA P k) (nuN P k) J.1) = true) => ?_) (fun (h1 : (suA T (opA P k) (nuN P k) J.1) = false) => ?_)
  · iterate 5 refine Wp.go rfl ?_
    refine Wp.call rfl cqX5_work (sX5_work (t := tyA P J.1) hP hO1 hp20 hT hO isC_163 (hJ).1 hx (by omega) (hN.1 k) hA (by decide) (hN.2.1 k) (fun q => h13 q h1)) (fun rv2 s2 hq2 => ?_)
    obtain ⟨rfl, hc2, ho2⟩ := hq2
    have hg2 := (hJ).hnd ho2 hc2
    iterate 4 refine Wp.go rfl ?_
    refine Wp.call rfl cqX1_goesOn (sX1_goesOn (hP.oJ ((offJ.rf).tr hg2.2)) hO1 hx (by omega) hp20) (fun rv3 s3 hq3 => ?_)
    obtain ⟨rfl, hq3⟩ := hq3
    replace hq3 := hq3.symm
    subst hq3
    refine Wp.go (if_pos ⟨(show 162 < 187 by decide), rfl, by decide, Or.inr ⟨rfl, bE_01 rfl⟩⟩) ?_
    iterate 3 refine Wp.go rfl ?_
    refine Wp.call rfl cqX1_jumps (sX1_jumps (hP.oJ (((offJ.rf).tr hg2.2).tr ((hg2.1).ath rfl).2)) hO1 hx (by omega) hp20) (fun rv4 s4 hq4 => ?_)
    obtain ⟨rfl, hq4⟩ := hq4
    replace hq4 := hq4.symm
    subst hq4
    refine Wp.go rfl ?_
    refine Wp.beqE rfl (fun (h2 : (juA P k) = false) => ?_) (fun (h2 : (juA P k) = true) => ?_)
    · iterate 2 refine Wp.go rfl ?_
      refine Wp.ret rfl ?_
      have e1 : jpA P T F J k = (true, (wkA (opA P k) (nuN P k) k (tyA P J.1) J.1, goA P k)) := by unfold jpA; rw [if_pos h1, h2]; rfl
      rw [e1]
      exact ⟨rfl, ((hg2.1).ath rfl).1, ((offJ.rf).tr hg2.2).tr ((hg2.1).ath rfl).2⟩
    · iterate 4 refine Wp.go rfl ?_
      refine Wp.call rfl cqX1_numberAt (sX1_numberAt (hP.oJ (((offJ.rf).tr hg2.2).tr ((hg2.1).ath rfl).2)) hO1 hx (by omega)) (fun rv5 s5 hq5 => ?_)
      obtain ⟨rfl, hq5⟩ := hq5
      replace hq5 := hq5.symm
      subst hq5
      iterate 2 refine Wp.go rfl ?_
      refine Wp.call rfl cqX4_fitsFrameOf (sX4_fitsFrameOf hO1 hO hFo (hP.oJ (((offJ.rf).tr hg2.2).tr ((hg2.1).ath rfl).2)) (hT.oJ (((offJ.rf).tr hg2.2).tr ((hg2.1).ath rfl).2)) (hF.oJ (((offJ.rf).tr hg2.2).tr ((hg2.1).ath rfl).2)) (hN.2.2 k h2).1 (Nat.le_of_lt (hN.2.2 k h2).2) isC_163 ((((hg2.1).ath rfl).1).1)) (fun rv6 s6 hq6 => ?_)
      obtain ⟨rfl, hq6⟩ := hq6
      replace hq6 := hq6.symm
      subst hq6
      refine Wp.go rfl ?_
      refine Wp.beqE rfl (fun (h3 : (jfA T (pn P) F (nuN P k) ((((wkA (opA P k) (nuN P k) k (tyA P J.1) J.1, J.2)).1, goA P k).1)) = false) => ?_) (fun (h3 : (jfA T (pn P) F (nuN P k) ((((wkA (opA P k) (nuN P k) k (tyA P J.1) J.1, J.2)).1, goA P k).1)) = true) => ?_)
      · refine Wp.go rfl ?_
        refine Wp.ret rfl ?_
        have e1 : jpA P T F J k = (false, (wkA (opA P k) (nuN P k) k (tyA P J.1) J.1, goA P k)) := by unfold jpA; rw [if_pos h1, h2, h3]; rfl
        rw [e1]
        exact ⟨rfl, ((hg2.1).ath rfl).1, ((offJ.rf).tr hg2.2).tr ((hg2.1).ath rfl).2⟩
      · iterate 2 refine Wp.go rfl ?_
        refine Wp.ret rfl ?_
        have e1 : jpA P T F J k = (true, (wkA (opA P k) (nuN P k) k (tyA P J.1) J.1, goA P k)) := by unfold jpA; rw [if_pos h1, h2, h3]; rfl
        rw [e1]
        exact ⟨rfl, ((hg2.1).ath rfl).1, ((offJ.rf).tr hg2.2).tr ((hg2.1).ath rfl).2⟩
  · refine Wp.go rfl ?_
    refine Wp.ret rfl ?_
    have e1 : jpA P T F J k = (false, J) := by unfold jpA; rw [if_neg (by rw [h1]; decide)]
    rw [e1]
    exact ⟨rfl, hJ, offJ.rf⟩
set_option maxRecDepth 100000 in
theorem lX4_hf {P : pT} {T : tT} {F : fS} (hO1 : pn P ≤ 30 ∧ qn P ≤ 4) (hO : tOk T) (hFo : fOk F) (hp20 : ∀ k, k < pn P → po P k ≤ 20) (hB : ∀ j, j < qn P → qf P j < qt P j ∧ qt P j ≤ 30 ∧ qa P j < 30 ∧ qk P j < 8) (hN : pNum P) {x : Int32} {k : Nat} (hx : x = nI k) (hk : k < 30) {J : jS} {σ0 : mc_G} : ∀ (n i : Nat) (b : Bool) (x2 x4 : Int32), x4 = nI i → i + n = qn P → x2 = bI b → ∀ (σ : mc_G), cJud J σ → cCode P σ → cTyp T σ → cFrm F σ → offJ σ0 σ → Wp miX4_handlersFit 4 [(0, .inr (some 162)), (1, .inl x), (2, .inl x2), (3, .inl x4)] [] σ (fun rv σ' => rv = some (.inl (bI (foR (jhS P T F J k) n i b))) ∧ cJud J σ' ∧ offJ σ0 σ') := by
  intro n
  induction n with
  | zero =>
    intro i b x2 x4 hz4 hin hb σ hJ hP hT hF ho
    iterate 3 refine Wp.go rfl ?_
    refine Wp.call rfl cqX1_handlers (sX1_handlers hP hO1) (fun rv1 s1 hq1 => ?_)
    obtain ⟨rfl, hq1⟩ := hq1
    replace hq1 := hq1.symm
    subst hq1
    refine Wp.go rfl ?_
    refine Wp.geN (a := i) (b := qn P) hz4 rfl (by omega) (by omega) (fun (h1 : ¬ i < qn P) => ?_) (fun (h1 : i < qn P) => ?_)
    · refine Wp.go rfl ?_
      refine Wp.ret (if_pos (Or.inr (bE_01 hb))) ?_
      exact ⟨rvB hb rfl, hJ, ho⟩
    · exfalso; omega
  | succ n ih =>
    intro i b x2 x4 hz4 hin hb σ hJ hP hT hF ho
    iterate 3 refine Wp.go rfl ?_
    refine Wp.call rfl cqX1_handlers (sX1_handlers hP hO1) (fun rv1 s1 hq1 => ?_)
    obtain ⟨rfl, hq1⟩ := hq1
    replace hq1 := hq1.symm
    subst hq1
    refine Wp.go rfl ?_
    refine Wp.geN (a := i) (b := qn P) hz4 rfl (by omega) (by omega) (fun (h1 : ¬ i < qn P) => ?_) (fun (h1 : i < qn P) => ?_)
    · refine Wp.go rfl ?_
      refine Wp.ret (if_pos (Or.inr (bE_01 hb))) ?_
      exfalso; omega
    · iterate 4 refine Wp.go rfl ?_
      refine Wp.call rfl cqX1_covers (sX1_covers hP hO1 hz4 (by omega) hx (by omega) hB) (fun rv2 s2 hq2 => ?_)
      obtain ⟨rfl, hq2⟩ := hq2
      replace hq2 := hq2.symm
      subst hq2
      refine Wp.go rfl ?_
      refine Wp.beqE rfl (fun (h2 : (cvA P i k) = false) => ?_) (fun (h2 : (cvA P i k) = true) => ?_)
      · iterate 2 refine Wp.go rfl ?_
        have e1 : foR (jhS P T F J k) (n + 1) i b = foR (jhS P T F J k) n (i + 1) b := by show foR (jhS P T F J k) n (i + 1) (jhS P T F J k b i) = _; unfold jhS; rw [if_neg (by rw [h2]; decide)]
        rw [e1]
        have hoz := @offJ.rf σ
        refine Wp.lo (lo := [(0, .inr (some 162)), (1, .inl _), (2, .inl _), (3, .inl _)]) ⟨rfl, rfl, rfl, rfl, trivial⟩ ?_
        exact ih (i + 1) _ _ _ (nE_add hz4 (rfl : _ = nI 1)) (by omega) hb _ (hJ) (hP.oJ hoz) (hT.oJ hoz) (hF.oJ hoz) (ho.tr hoz)
      · iterate 7 refine Wp.go rfl ?_
        refine Wp.call rfl cqX1_thingOf (sX1_thingOf hP hO1 hz4 (by omega) hB) (fun rv3 s3 hq3 => ?_)
        obtain ⟨rfl, hq3⟩ := hq3
        replace hq3 := hq3.symm
        subst hq3
        refine Wp.call rfl cqX0_becomeCaught (sX0_becomeCaught (q := 100 + qk P i) isC_165 isC_163 (hJ).2.1.choose_spec (hJ).1 ⟨by decide, by decide, by decide⟩ (by rw [show thA P i = 100 + qk P i from if_pos (by omega)]) (by have := hB i (by omega); omega)) (fun rv4 s4 hq4 => ?_)
        obtain ⟨rfl, hc4, ho4⟩ := hq4
        have hg4 := (hJ).cau ho4 hc4
        iterate 5 refine Wp.go rfl ?_
        refine Wp.call rfl cqX1_startOf (sX1_startOf (hP.oJ ((offJ.rf).tr hg4.2)) hO1 hz4 (by omega) hB) (fun rv5 s5 hq5 => ?_)
        obtain ⟨rfl, hq5⟩ := hq5
        replace hq5 := hq5.symm
        subst hq5
        iterate 2 refine Wp.go rfl ?_
        refine Wp.call rfl cqX4_fitsFrameOf (sX4_fitsFrameOf hO1 hO hFo (hP.oJ ((offJ.rf).tr hg4.2)) (hT.oJ ((offJ.rf).tr hg4.2)) (hF.oJ ((offJ.rf).tr hg4.2)) (stE (by omega)) (by have := hB i (by omega); omega) isC_165 (hc4)) (fun rv6 s6 hq6 => ?_)
        obtain ⟨rfl, hq6⟩ := hq6
        replace hq6 := hq6.symm
        subst hq6
        iterate 4 refine Wp.go rfl ?_
        have e1 : foR (jhS P T F J k) (n + 1) i b = foR (jhS P T F J k) n (i + 1) (b && (jfA T (pn P) F (qa P i) ((1, va_up J.1.2 8 (100 + qk P i))))) := by show foR (jhS P T F J k) n (i + 1) (jhS P T F J k b i) = _; unfold jhS; rw [if_pos h2]
        rw [e1]
        have hoz := (offJ.rf).tr hg4.2
        refine Wp.lo (lo := [(0, .inr (some 162)), (1, .inl _), (2, .inl _), (3, .inl _)]) ⟨rfl, rfl, rfl, rfl, trivial⟩ ?_
        exact ih (i + 1) _ _ _ (nE_add hz4 (rfl : _ = nI 1)) (by omega) (bE_and hb rfl) _ (hg4.1) (hP.oJ hoz) (hT.oJ hoz) (hF.oJ hoz) (ho.tr hoz)
theorem sX4_handlersFit {P : pT} {T : tT} {F : fS} (hO1 : pn P ≤ 30 ∧ qn P ≤ 4) (hO : tOk T) (hFo : fOk F) (hp20 : ∀ k, k < pn P → po P k ≤ 20) (hB : ∀ j, j < qn P → qf P j < qt P j ∧ qt P j ≤ 30 ∧ qa P j < 30 ∧ qk P j < 8) (hN : pNum P) {σ : mc_G} (hP : cCode P σ) (hT : cTyp T σ) (hF : cFrm F σ) {x : Int32} {k : Nat} (hx : x = nI k) (hk : k < 30) {J : jS} (hJ : cJud J σ) : Wp miX4_handlersFit 0 [(0, .inr (some 162)), (1, .inl x)] [] σ (fun rv σ' => rv = some (.inl (bI (jhA P T F J k))) ∧ cJud J σ' ∧ offJ σ σ') := by
  iterate 4 refine Wp.go rfl ?_
  refine Wp.lo (lo := [(0, .inr (some 162)), (1, .inl _), (2, .inl _), (3, .inl _)]) ⟨rfl, rfl, rfl, rfl, trivial⟩ ?_
  exact lX4_hf hO1 hO hFo hp20 hB hN hx hk _ 0 true _ _ (rfl : _ = nI 0) (by omega) rfl σ hJ hP hT hF offJ.rf

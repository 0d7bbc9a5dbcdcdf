/-! the judge, both ways -/
def Jv (P : pT) (T : tT) (h : Nat → Nat) (rc : Nat → Bool) (k : Nat) (J : jS) : Prop := J.2 = true → rc k = true ∧ J.1.1 = h k ∧ gC P T J.1
theorem nm_p {n : Nat} {F : fS} {i : Nat} (h : i < n) : nmA n F i = F.2.1 i := if_pos h
theorem kMd.fr {K : kS} (hd : kMd K) (hm : K.2.2.2.2.2.2.1 = true) {i : Nat} (hi : i < pn K.2.1) (hF : ¬ K.2.2.2.2.1.2.1 i = -1) : ∃ k, k < K.2.2.2.2.1.2.2.2.2 ∧ K.2.2.2.2.1.1 k = i ∧ gvF (pn K.2.1) K.2.2.2.2.1 i = K.2.2.2.2.1.2.2.2.1 k ∧ K.2.2.2.1.2.1 i = true ∧ gC K.2.1 K.1 (gvF (pn K.2.1) K.2.2.2.2.1 i) ∧ (gvF (pn K.2.1) K.2.2.2.2.1 i).1 = (K.2.2.2.1.1 i).1 := by
  obtain ⟨h1, h30, h3, h4, h5, h6⟩ := hd hm
  obtain ⟨k, hk, e⟩ := h4 i hF
  obtain ⟨a1, a2, a3, a4, a5⟩ := h3 k hk
  have e2 : gvF (pn K.2.1) K.2.2.2.2.1 i = K.2.2.2.2.1.2.2.2.1 k := by
    unfold gvF fno
    rw [nm_p hi, ← e, a5, clE rfl (by omega)]
  refine ⟨k, hk, e, e2, by rw [← e]; exact a2, by rw [e2]; exact a3, by rw [e2, a4, e]⟩
theorem kMd.gv {K : kS} {σ : mc_G} (hd : kMd K) (hk : kOk K) (hM : cMod K σ) (hm : K.2.2.2.2.2.2.1 = true) {i : Nat} (hi : i < pn K.2.1) (hF : ¬ K.2.2.2.2.1.2.1 i = -1) : gvP K.2.1 K.1 K.2.2.2.2.1 i σ := by
  have hn30 := hk.2.1.1
  obtain ⟨k, a1, a2, a3, a4, a5, a6⟩ := hd.fr hm hi hF
  have hD := hM.2.2.2.2.2 hm
  obtain ⟨H, hH⟩ := hD.1
  refine ⟨by rw [nm_p hi]; exact hF, by omega, a5, ⟨H i, (hH i (by omega)).1, (hH i (by omega)).2.1, ?_⟩, fun j hj => ?_⟩
  · rw [(hH i (by omega)).2.2.2 a4, a6]
  · rw [a3] at hj ⊢
    have := (hD.2.2.1.2 k a1).2 j hj
    rw [a2] at this
    exact this
theorem kMd.ju {K : kS} (hd : kMd K) (hm : K.2.2.2.2.2.2.1 = true) {i : Nat} (hi : i < pn K.2.1) (hr : K.2.2.2.1.2.1 i = true) (hj : juA K.2.1 i = true) (hn : nuN K.2.1 i < pn K.2.1) : ¬ K.2.2.2.2.1.2.1 (nuN K.2.1 i) = -1 := by
  have h5 := (hd hm).2.2.2.2.1 (nuN K.2.1 i) hn
  rw [← h5, iFA_iff]
  exact ⟨i, hi, by unfold hN; rw [if_pos hr]; decide, Or.inl ⟨hj, rfl⟩⟩
theorem kMd.hd {K : kS} (hd : kMd K) (hm : K.2.2.2.2.2.2.1 = true) {i j : Nat} (hi : i < pn K.2.1) (hr : K.2.2.2.1.2.1 i = true) (hj : cvA K.2.1 j i = true) (hn : qa K.2.1 j < pn K.2.1) : ¬ K.2.2.2.2.1.2.1 (qa K.2.1 j) = -1 := by
  have h5 := (hd hm).2.2.2.2.1 (qa K.2.1 j) hn
  rw [← h5, iFA_iff]
  exact ⟨i, hi, by unfold hN; rw [if_pos hr]; decide, Or.inr ⟨j, by unfold cvA at hj; simp at hj; exact hj.1.1, hj, rfl⟩⟩
theorem Jv.t {K : kS} (hd : kMd K) (hm : K.2.2.2.2.2.2.1 = true) {h : Nat → Nat} {rc : Nat → Bool} (hrc : ∀ i, rc i = K.2.2.2.1.2.1 i) (hS : nOk K.2.1 K.1 h rc K.2.2.2.1) {k : Nat} (hk : k < pn K.2.1) {J : jS} (hJ : Jv K.2.1 K.1 h rc k J) : Jv K.2.1 K.1 h rc k (jtA K.1 (pn K.2.1) K.2.2.2.2.1 J k).2 := by
  unfold jtA
  rw [nm_p hk]
  by_cases e : K.2.2.2.2.1.2.1 k = -1
  · rw [if_pos e]; exact hJ
  · rw [if_neg e]
    obtain ⟨m, a1, a2, a3, a4, a5, a6⟩ := hd.fr hm hk e
    intro _
    exact ⟨by rw [hrc, a4], by show (gvF _ _ _).1 = _; rw [a6, (hS k a4).2.1], a5⟩
theorem Jv.p {P : pT} {T : tT} (hG : pG P T) {F : fS} {h : Nat → Nat} {rc : Nat → Bool} (hH : pH P h rc) {k : Nat} {J : jS} (hJ : Jv P T h rc k J) (h2 : J.2 = true) (hp : (jpA P T F J k).1 = true) : Jv P T h rc (k + 1) (jpA P T F J k).2 := by
  obtain ⟨a1, a2, a3⟩ := hJ h2
  obtain ⟨b0, b1, b2, b3, b4, b5⟩ := hH.2.2 k a1
  unfold jpA at *
  by_cases e : suA T (opA P k) (nuN P k) J.1 = true
  · rw [if_pos e] at *
    intro hg
    have hg : goA P k = true := hg
    refine ⟨(b3 hg).1, ?_, gC_wk hG.2.2.2.2.1 hG.2.2.2.2.2 hG.1 (op_20 hG k) a3 e (by rw [a2]; exact b1) (by rw [a2]; exact b2)⟩
    show (wkA _ _ _ _ _).1 = _
    rw [wkA_1 (T := T) (op_20 hG k) (by rw [a2]; exact b1) (by rw [a2]; exact b2), a2, (b3 hg).2]
  · rw [if_neg e] at hp; cases hp
set_option maxRecDepth 100000 in
theorem lX12_jg {K : kS} {σ0 : mc_G} (hM0 : cMod K σ0) (hk : kOk K) (hd : kMd K) (hm : K.2.2.2.2.2.2.1 = true) {h : Nat → Nat} {rc : Nat → Bool} (hH : pH K.2.1 h rc) (hrc : ∀ i, rc i = K.2.2.2.1.2.1 i) (hS : nOk K.2.1 K.1 h rc K.2.2.2.1) : ∀ (n i : Nat) (y z : Int32) (J : jS) (σ : mc_G), z = nI i → i + n = pn K.2.1 → y = bI J.2 → (J.2 = true → mHd J.1 σ) → Jv K.2.1 K.1 h rc i J → mo [181] [20] σ0 σ → Wp miX12_judge 50 [(0, .inr (some 167)), (1, .inl y), (2, .inl z)] [] σ (fun rv σ' => rv = some (.inl (jwF K.2.1 K.1 K.2.2.2.2.1 n i J)) ∧ mo [181] [20] σ0 σ') := by
  have hG := hk.g
  have hn30 := hk.2.1.1
  obtain ⟨HH, hHH⟩ := (hM0.2.2.2.2.2 hm).1
  have hH7 : mH7 HH σ0 := fun i hi => ⟨(hHH i hi).1, (hHH i hi).2.1⟩
  have hcg : ∀ i, iFA K.2.1 HH i = iFA K.2.1 (hN K.2.2.2.1) i := fun i => iFA_cg (fun j hj => by
    have := (hHH j (by omega)).2.2.1
    unfold hN
    by_cases e : K.2.2.2.1.2.1 j = true
    · rw [if_pos e]; rw [e] at this; simp at this; omega
    · rw [if_neg e]; simp at e; rw [e] at this; simp at this; omega) i
  intro n
  induction n with
  | zero =>
    intro i y z J σ hz hi hy hE hJ ho
    iterate 4 refine Wp.go rfl ?_
    refine Wp.geN (a := i) (b := pn K.2.1) hz (hM0.2.1.o ho).1 (by omega) (by omega) (fun (h1 : ¬ i < pn K.2.1) => ?_) (fun (h1 : i < pn K.2.1) => by omega)
    refine Wp.go rfl ?_
    refine Wp.ret rfl ?_
    exact ⟨rfl, ho⟩
  | succ n ih =>
    intro i y z J σ hz hi hy hE hJ ho
    have hpi : i < pn K.2.1 := by omega
    have hJt := hJ.t hd hm hrc hS hpi
    -- from the place behind the FRAME on
    have fin : ∀ (y1 : Int32) (J1 : jS) (σ1 : mc_G), y1 = bI J1.2 → (J1.2 = true → mHd J1.1 σ1) → Jv K.2.1 K.1 h rc i J1 → mo [181] [20] σ0 σ1 → Wp miX12_judge 96 [(0, .inr (some 167)), (1, .inl y1), (2, .inl z)] [] σ1 (fun rv σ' => rv = some (.inl (if J1.2 = true then (if jhA K.2.1 K.1 K.2.2.2.2.1 J1 i = true then (if (jpA K.2.1 K.1 K.2.2.2.2.1 J1 i).1 = true then jwF K.2.1 K.1 K.2.2.2.2.1 n (i + 1) (jpA K.2.1 K.1 K.2.2.2.2.1 J1 i).2 else nI i) else nI i) else jwF K.2.1 K.1 K.2.2.2.2.1 n (i + 1) J1)) ∧ mo [181] [20] σ0 σ') := by
      intro y1 J1 σ1 hy1 hE1 hJ1 ho1
      iterate 2 refine Wp.go rfl ?_
      refine Wp.beqE hy1 (fun h1 => ?_) (fun h1 => ?_)
      · rw [if_neg (by rw [h1]; decide)]
        iterate 2 refine Wp.go rfl ?_
        refine Wp.lo (lo := [(0, .inr (some 167)), (1, .inl _), (2, .inl _)]) ⟨rfl, rfl, rfl, trivial⟩ ?_
        refine ih (i + 1) y1 _ J1 σ1 (nE_add hz (rfl : _ = nI 1)) (by omega) hy1 hE1 (fun q => by rw [h1] at q; cases q) ho1
      · rw [if_pos h1]
        obtain ⟨a1, a2, a3⟩ := hJ1 h1
        have hm0 := hH.2.2 i a1
        have hC1 := hE1 h1
        iterate 2 refine Wp.go rfl ?_
        refine Wp.call rfl cqX12_isWanted (sX12_isWanted hC1 (hM0.2.1.o ho1) hG.2.2.2.2.1 hG.2.2.2.2.2 hG.1 hz hpi hn30 a3 (hM0.1.o ho1) (op_20 hG i) (by rw [a2]; exact hm0.2.1)) (fun rv2 s2 hq2 => ?_)
        obtain ⟨rfl, hq2⟩ := hq2
        replace hq2 := hq2.symm
        subst hq2
        refine Wp.go rfl ?_
        refine Wp.beqE (b := suA K.1 (opA K.2.1 i) (nuN K.2.1 i) J1.1) rfl (fun h2 => ?_) (fun h2 => ?_)
        · have e1 : (jpA K.2.1 K.1 K.2.2.2.2.1 J1 i).1 = false := by unfold jpA; rw [if_neg (by rw [h2]; decide)]
          iterate 1 refine Wp.go rfl ?_
          refine Wp.ret rfl ?_
          rw [e1]
          refine ⟨rvX hz ?_, ho1⟩
          split <;> simp
        · iterate 2 refine Wp.go rfl ?_
          refine Wp.call rfl cqX12_handlersGo (sX12_handlersGo (at0 := J1.2) (F := K.2.2.2.2.1) hG (hM0.2.1.o ho1) hC1 (hM0.1.o ho1) (fun p hp => vK_8 hG.1 (a3.2.1 p hp)) (by omega) (fun j hj => (hd.gv hk hM0 hm (hH.2.2 _ (hm0.2.2.2.2.2 j hj).1).1 (hd.hd hm hpi (by rw [← hrc]; exact a1) hj (hH.2.2 _ (hm0.2.2.2.2.2 j hj).1).1)).o ho1) hz) (fun rv3 s3 hq3 => ?_)
          obtain ⟨rfl, hq3⟩ := hq3
          replace hq3 := hq3.symm
          subst hq3
          refine Wp.go rfl ?_
          refine Wp.bneE (b := jhA K.2.1 K.1 K.2.2.2.2.1 J1 i) rfl (fun h3 => ?_) (fun h3 => ?_)
          · rw [if_pos h3]
            iterate 2 refine Wp.go rfl ?_
            refine Wp.call rfl cqX12_work (sX12_work hC1 (hM0.2.1.o ho1) hG.2.2.2.2.1 hG.2.2.2.2.2 hG.1 hz hpi hn30 a3 (op_20 hG i) h2 (by rw [a2]; exact hm0.2.1) (by rw [a2]; exact hm0.2.2.1)) (fun rv4 s4 hq4 => ?_)
            obtain ⟨rfl, hC4, o4⟩ := hq4
            have ho4 := ho1.tr o4
            have hgw := gC_wk hG.2.2.2.2.1 hG.2.2.2.2.2 hG.1 (op_20 hG i) a3 h2 (by rw [a2]; exact hm0.2.1) (by rw [a2]; exact hm0.2.2.1)
            have ejp : jpA K.2.1 K.1 K.2.2.2.2.1 J1 i = (!juA K.2.1 i || jfA K.1 (pn K.2.1) K.2.2.2.2.1 (nuN K.2.1 i) (wkA (opA K.2.1 i) (nuN K.2.1 i) i (tyA K.2.1 J1.1) J1.1), (wkA (opA K.2.1 i) (nuN K.2.1 i) i (tyA K.2.1 J1.1) J1.1, goA K.2.1 i)) := by unfold jpA; rw [if_pos h2]
            -- the way on
            have onw : (jpA K.2.1 K.1 K.2.2.2.2.1 J1 i).1 = true → Wp miX12_judge 150 [(0, .inr (some 167)), (1, .inl y1), (2, .inl z)] [] s4 (fun rv σ' => rv = some (.inl (if (jpA K.2.1 K.1 K.2.2.2.2.1 J1 i).1 = true then jwF K.2.1 K.1 K.2.2.2.2.1 n (i + 1) (jpA K.2.1 K.1 K.2.2.2.2.1 J1 i).2 else nI i)) ∧ mo [181] [20] σ0 σ') := by
              intro hp
              rw [if_pos hp]
              iterate 3 refine Wp.go rfl ?_
              refine Wp.go (if_pos ⟨rfl, rfl, (inE (n := 30) hz (by omega))⟩) ?_
              refine Wp.call rfl cqX12_goesOn (sX12_goesOn (rdE hz (by omega) ((hM0.2.1.o ho4).op hpi)) (op_20 hG i)) (fun rv5 s5 hq5 => ?_)
              obtain ⟨rfl, hq5⟩ := hq5
              replace hq5 := hq5.symm
              subst hq5
              iterate 3 refine Wp.go rfl ?_
              refine Wp.lo (lo := [(0, .inr (some 167)), (1, .inl _), (2, .inl _)]) ⟨rfl, rfl, rfl, trivial⟩ ?_
              refine ih (i + 1) _ _ _ _ (nE_add hz (rfl : _ = nI 1)) (by omega) (by rw [ejp]; rfl) (fun _ => by rw [ejp]; exact hC4) (hJ1.p hG hH h1 hp) ho4
            iterate 3 refine Wp.go rfl ?_
            refine Wp.go (if_pos ⟨rfl, rfl, (inE (n := 30) hz (by omega))⟩) ?_
            refine Wp.call rfl cqX12_leads (sX12_leads (rdE hz (by omega) ((hM0.2.1.o ho4).op hpi)) (op_20 hG i)) (fun rv5 s5 hq5 => ?_)
            obtain ⟨rfl, hq5⟩ := hq5
            replace hq5 := hq5.symm
            subst hq5
            refine Wp.go rfl ?_
            refine Wp.beqE (b := juA K.2.1 i) rfl (fun h4 => ?_) (fun h4 => ?_)
            · exact onw (by rw [ejp]; show (!juA K.2.1 i || _) = true; rw [h4]; rfl)
            · have hcv := hm0.2.2.2.2.1 h4
              have hmn := hH.2.2 _ hcv.1
              have hgp := (hd.gv hk hM0 hm hmn.1 (hd.ju hm hpi (by rw [← hrc]; exact a1) h4 hmn.1)).o ho4
              obtain ⟨m, c1, c2, c3⟩ := hgp.2.2.2.1
              have hnu := hG.2.2.2.2.1.2.2 i h4
              iterate 4 refine Wp.go rfl ?_
              refine Wp.go (if_pos ⟨rfl, rfl, (inE (n := 30) hz (by omega))⟩) ?_
              refine Wp.call rfl cqX12_goFor (sX12_goFor (g := gvF (pn K.2.1) K.2.2.2.2.1 (nuN K.2.1 i)) hG.1 hC4 (hM0.1.o ho4) hgp.2.1 (rdE hz (by omega) (((hM0.2.1.o ho4).nu hpi).trans hnu.1)) c1 c2 c3 hgp.2.2.1.1 (hgp.r hG) (fun p hp => vK_8 hG.1 (hgw.2.1 p hp)) (fun p hp => vK_8 hG.1 (hgp.2.2.1.2.1 p hp))) (fun rv6 s6 hq6 => ?_)
              obtain ⟨rfl, hq6⟩ := hq6
              replace hq6 := hq6.symm
              subst hq6
              have ejf : jfA K.1 (pn K.2.1) K.2.2.2.2.1 (nuN K.2.1 i) (wkA (opA K.2.1 i) (nuN K.2.1 i) i (tyA K.2.1 J1.1) J1.1) = sfA K.1 (wkA (opA K.2.1 i) (nuN K.2.1 i) i (tyA K.2.1 J1.1) J1.1) (gvF (pn K.2.1) K.2.2.2.2.1 (nuN K.2.1 i)) := by unfold jfA; rw [if_neg hgp.1]
              refine Wp.go rfl ?_
              refine Wp.bneE (b := sfA K.1 (wkA (opA K.2.1 i) (nuN K.2.1 i) i (tyA K.2.1 J1.1) J1.1) (gvF (pn K.2.1) K.2.2.2.2.1 (nuN K.2.1 i))) rfl (fun h5 => ?_) (fun h5 => ?_)
              · exact onw (by rw [ejp]; show (!juA K.2.1 i || _) = true; rw [ejf, h5, Bool.or_true])
              · iterate 1 refine Wp.go rfl ?_
                refine Wp.ret rfl ?_
                have e1 : (jpA K.2.1 K.1 K.2.2.2.2.1 J1 i).1 = false := by rw [ejp]; show (!juA K.2.1 i || _) = false; rw [ejf, h5, h4]; rfl
                rw [if_neg (by rw [e1]; decide)]
                exact ⟨rvX hz rfl, ho4⟩
          · rw [if_neg (by rw [h3]; decide)]
            iterate 1 refine Wp.go rfl ?_
            refine Wp.ret rfl ?_
            exact ⟨rvX hz rfl, ho1⟩
    show Wp miX12_judge 50 _ [] σ (fun rv σ' => rv = some (.inl (if (jtA K.1 (pn K.2.1) K.2.2.2.2.1 J i).1 = true then (if (jtA K.1 (pn K.2.1) K.2.2.2.2.1 J i).2.2 = true then (if jhA K.2.1 K.1 K.2.2.2.2.1 (jtA K.1 (pn K.2.1) K.2.2.2.2.1 J i).2 i = true then (if (jpA K.2.1 K.1 K.2.2.2.2.1 (jtA K.1 (pn K.2.1) K.2.2.2.2.1 J i).2 i).1 = true then jwF K.2.1 K.1 K.2.2.2.2.1 n (i + 1) (jpA K.2.1 K.1 K.2.2.2.2.1 (jtA K.1 (pn K.2.1) K.2.2.2.2.1 J i).2 i).2 else nI i) else nI i) else jwF K.2.1 K.1 K.2.2.2.2.1 n (i + 1) (jtA K.1 (pn K.2.1) K.2.2.2.2.1 J i).2) else nI i)) ∧ mo [181] [20] σ0 σ')
    iterate 4 refine Wp.go rfl ?_
    refine Wp.geN (a := i) (b := pn K.2.1) hz (hM0.2.1.o ho).1 (by omega) (by omega) (fun (h1 : ¬ i < pn K.2.1) => by omega) (fun (h1 : i < pn K.2.1) => ?_)
    iterate 2 refine Wp.go rfl ?_
    refine Wp.call rfl cqX12_isFrame (sX12_isFrame hG.2.1 hG.2.2.2.1 hG.2.2.2.2.1 hG.2.2.1 (hM0.2.1.o ho) (hH7.o ho) (by omega) hz) (fun rv1 s1 hq1 => ?_)
    obtain ⟨rfl, hq1⟩ := hq1
    replace hq1 := hq1.symm
    subst hq1
    have hfi := (hd hm).2.2.2.2.1 i hpi
    rw [← hcg] at hfi
    refine Wp.go rfl ?_
    refine Wp.beqE (b := iFA K.2.1 HH i) rfl (fun h2 => ?_) (fun h2 => ?_)
    · have hF : K.2.2.2.2.1.2.1 i = -1 := by
        by_cases q : K.2.2.2.2.1.2.1 i = -1
        · exact q
        · rw [hfi.mpr q] at h2; cases h2
      have et : jtA K.1 (pn K.2.1) K.2.2.2.2.1 J i = (true, J) := by unfold jtA; rw [nm_p hpi, if_pos hF]
      rw [et] at hJt ⊢
      rw [if_pos rfl]
      exact fin y J σ hy hE hJ ho
    · have hF : ¬ K.2.2.2.2.1.2.1 i = -1 := hfi.mp h2
      have et : jtA K.1 (pn K.2.1) K.2.2.2.2.1 J i = (!J.2 || sfA K.1 J.1 (gvF (pn K.2.1) K.2.2.2.2.1 i), (gvF (pn K.2.1) K.2.2.2.2.1 i, true)) := by unfold jtA; rw [nm_p hpi, if_neg hF]
      rw [et] at hJt ⊢
      have hgp := (hd.gv hk hM0 hm hpi hF).o ho
      obtain ⟨m, c1, c2, c3⟩ := hgp.2.2.2.1
      -- the FRAME is taken up
      have tk : (!J.2 || sfA K.1 J.1 (gvF (pn K.2.1) K.2.2.2.2.1 i)) = true → Wp miX12_judge 80 [(0, .inr (some 167)), (1, .inl y), (2, .inl z)] [] σ (fun rv σ' => rv = some (.inl (if (!J.2 || sfA K.1 J.1 (gvF (pn K.2.1) K.2.2.2.2.1 i)) = true then (if true = true then (if jhA K.2.1 K.1 K.2.2.2.2.1 (gvF (pn K.2.1) K.2.2.2.2.1 i, true) i = true then (if (jpA K.2.1 K.1 K.2.2.2.2.1 (gvF (pn K.2.1) K.2.2.2.2.1 i, true) i).1 = true then jwF K.2.1 K.1 K.2.2.2.2.1 n (i + 1) (jpA K.2.1 K.1 K.2.2.2.2.1 (gvF (pn K.2.1) K.2.2.2.2.1 i, true) i).2 else nI i) else nI i) else jwF K.2.1 K.1 K.2.2.2.2.1 n (i + 1) (gvF (pn K.2.1) K.2.2.2.2.1 i, true)) else nI i)) ∧ mo [181] [20] σ0 σ') := by
        intro hb
        rw [if_pos hb]
        iterate 6 refine Wp.go rfl ?_
        refine Wp.call rfl cqX12_highOf (sX12_highOf hz (by omega) c1 c2) (fun rv2 s2 hq2 => ?_)
        obtain ⟨rfl, hq2⟩ := hq2
        replace hq2 := hq2.symm
        subst hq2
        refine Wp.call rfl cqX12_takeUp (sX12_takeUp183 (f := (gvF (pn K.2.1) K.2.2.2.2.1 i).2) (h := (gvF (pn K.2.1) K.2.2.2.2.1 i).1) hz (by omega) (congrArg nI c3) hgp.2.2.1.1 (hgp.r hG)) (fun rv3 s3 hq3 => ?_)
        obtain ⟨rfl, hC3, o3⟩ := hq3
        iterate 2 refine Wp.go rfl ?_
        refine Wp.lo (lo := [(0, .inr (some 167)), (1, .inl _), (2, .inl _)]) ⟨rfl, rfl, rfl, trivial⟩ ?_
        exact fin _ (gvF (pn K.2.1) K.2.2.2.2.1 i, true) s3 rfl (fun _ => hC3) hJt (ho.tr o3)
      iterate 2 refine Wp.go rfl ?_
      refine Wp.beqE hy (fun h3 => ?_) (fun h3 => ?_)
      · exact tk (by rw [h3]; rfl)
      · obtain ⟨a1, a2, a3⟩ := hJ h3
        iterate 2 refine Wp.go rfl ?_
        refine Wp.call rfl cqX12_goFor (sX12_goFor (g := gvF (pn K.2.1) K.2.2.2.2.1 i) hG.1 (hE h3) (hM0.1.o ho) (by omega) hz c1 c2 c3 hgp.2.2.1.1 (hgp.r hG) (fun p hp => vK_8 hG.1 (a3.2.1 p hp)) (fun p hp => vK_8 hG.1 (hgp.2.2.1.2.1 p hp))) (fun rv2 s2 hq2 => ?_)
        obtain ⟨rfl, hq2⟩ := hq2
        replace hq2 := hq2.symm
        subst hq2
        refine Wp.go rfl ?_
        refine Wp.bneE (b := sfA K.1 J.1 (gvF (pn K.2.1) K.2.2.2.2.1 i)) rfl (fun h4 => ?_) (fun h4 => ?_)
        · exact tk (by rw [h4, Bool.or_true])
        · iterate 1 refine Wp.go rfl ?_
          refine Wp.ret rfl ?_
          rw [if_neg (by show ¬ (!J.2 || _) = true; rw [h3, h4]; decide)]
          exact ⟨rvX hz rfl, ho⟩
set_option maxRecDepth 100000 in
theorem lX12_jgB {B : cS} {Φ : Option mc_V → mc_G → Prop} : ∀ (n i : Nat) (z : Int32) (σ : mc_G), z = nI i → i ≤ 8 → 8 - i < n → cMB B σ → arP 181 i B.2 σ → (∀ (z1 : Int32) (σ1 : mc_G), arP 181 8 B.2 σ1 → mo [181] [] σ σ1 → Wp miX12_judge 41 [(0, .inr (some 167)), (1, .inl z1)] [] σ1 Φ) → Wp miX12_judge 17 [(0, .inr (some 167)), (1, .inl z)] [] σ Φ := by
  intro n
  induction n with
  | zero => intro i z σ hz hi h; omega
  | succ n ih =>
    intro i z σ hz hi hn hB hA kk
    iterate 3 refine Wp.go rfl ?_
    refine Wp.geN (a := i) (b := 8) hz (rfl : _ = nI 8) (by omega) (by omega) (fun (h1 : ¬ i < 8) => ?_) (fun (h1 : i < 8) => ?_)
    · exact kk z σ (fun j hj => hA j (by omega)) mo.rf
    · iterate 6 refine Wp.go rfl ?_
      refine Wp.go (if_pos ⟨rfl, rfl, (inE (n := 8) hz (by omega))⟩) ?_
      refine Wp.go (if_pos ⟨(show 181 < 187 by decide), rfl, (inE (n := 14) hz (by omega))⟩) ?_
      iterate 2 refine Wp.go rfl ?_
      refine Wp.lo (lo := [(0, .inr (some 167)), (1, .inl _)]) ⟨rfl, rfl, trivial⟩ ?_
      refine ih (i + 1) _ _ (nE_add hz (rfl : _ = nI 1)) (by omega) (by omega) (hB.o (mo.a (cs := [181]) (fs := []) _ (by decide) (by decide) _ _)) (uHd hA hz (by omega) (rdE hz (by omega) (hB i (by omega)).1) (hB i (by omega)).2) (fun z1 σ1 a1 a2 => kk z1 σ1 a1 ((mo.a _ (by decide) (by decide) _ _).tr a2))
set_option maxRecDepth 100000 in
theorem sX12_judge {K : kS} {σ : mc_G} (hM : cMod K σ) (hk : kOk K) (hd : kMd K) : Wp miX12_judge 0 [(0, .inr (some 167))] [] σ (fun rv σ' => rv = some (.inl (if K.2.2.2.2.2.2.1 = true then jwF K.2.1 K.1 K.2.2.2.2.1 (pn K.2.1) 0 (K.2.2.1, true) else -2)) ∧ cMod K σ' ∧ ofR 167 186 σ σ') := by
  have hM0 := hM.c 0
  have r0 : ofR 167 186 σ (mc_up σ 167 0 0) := (mo.f σ (cs := []) (fs := [0]) (by decide) 0).r (by decide)
  iterate 6 refine Wp.go rfl ?_
  refine Wp.bneE hM0.2.2.2.1 (fun h1 => ?_) (fun h1 => ?_)
  · rw [if_pos h1]
    obtain ⟨⟨h, rc, hH, hrc, hS⟩, -⟩ := hd h1
    iterate 2 refine Wp.go rfl ?_
    refine Wp.lo (lo := [(0, .inr (some 167)), (1, .inl _)]) ⟨rfl, rfl, trivial⟩ ?_
    refine lX12_jgB (B := K.2.2.1) 9 0 _ (mc_up σ 167 0 0) (rfl : _ = nI 0) (by decide) (by decide) hM0.2.2.1 (fun j hj => by omega) (fun z1 σ1 a1 a2 => ?_)
    iterate 7 refine Wp.go rfl ?_
    refine Wp.lo (lo := [(0, .inr (some 167)), (1, .inl _), (2, .inl _)]) ⟨rfl, rfl, rfl, trivial⟩ ?_
    have hB1 : K.2.2.1.1 = 0 := hk.2.2.2.2.2.2.1
    have c1 : mo [181] [20] σ1 (mc_up σ1 167 20 0) := mo.f _ (by decide) _
    have c4 : mHd K.2.2.1 (mc_up σ1 167 20 0) := ⟨up_20 (by rw [hB1]; rfl), by omega, by rw [hB1]; exact a1.o (cs := []) (fs := [20]) (mo.f _ (by decide) _) (by decide) (by decide)⟩
    refine (lX12_jg hM0 hk hd h1 hH hrc hS (pn K.2.1) 0 _ _ (K.2.2.1, true) (mc_up σ1 167 20 0) (rfl : _ = nI 0) (by omega) rfl (fun _ => c4) (fun _ => ⟨hH.1, hB1.trans hH.2.1.symm, hk.2.2.2.2.2.2.2⟩) ((a2.wi (by decide) (by decide)).tr c1)).mono (fun rv σ2 q => ⟨q.1, hM0.o q.2 (by decide) (by decide), r0.tr (q.2.r (by decide))⟩)
  · rw [if_neg (by rw [h1]; decide)]
    refine Wp.go rfl ?_
    refine Wp.ret rfl ?_
    exact ⟨rfl, hM0, r0⟩

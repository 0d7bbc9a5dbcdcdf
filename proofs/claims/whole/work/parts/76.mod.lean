/-! the reference's make -/
def lfN (Z : hS) : Nat → Nat → Nat × Nat
  | 0, _ => (0, 0)
  | n + 1, i => if hfA Z i = 0 then lfN Z n (i + 1) else (hfA Z i, i)
def mZA (P : pT) : hS := foR (hpA P) 220 0 h0A
def lfM (P : pT) : Nat × Nat := if pn P = 0 then (1, 0) else lfN (mZA P) (pn P) 0
theorem hf_4 (Z : hS) (i : Nat) : hfA Z i < 4 := by
  unfold hfA; split; decide; split; decide; split <;> decide
theorem mHF.o {Z : hS} {σ σ' : mc_G} {cs fs : List Nat} (k : mHF Z σ) (o : mo cs fs σ σ') (h1 : ¬ 177 ∈ cs := by decide) (h2 : ¬ 178 ∈ cs := by decide) : mHF Z σ' := by
  unfold mHF; rw [o.1 177 (by decide) h1, o.1 178 (by decide) h2]; exact k
theorem cMod.fl {K : kS} {σ : mc_G} {v : Int32} {a : Nat} (hT : cMT K.1 σ) (hP : cMP K.2.1 σ) (hB : cMB K.2.2.1 σ) (h13 : σ 167 13 = bI false) (hv : v = nI a) : cMod (kM K false a) (mc_up σ 167 14 v) := by
  have o : mo [] [14] σ (mc_up σ 167 14 v) := mo.f σ (by decide) v
  exact ⟨hT.o o, hP.o o, hB.o o, by rw [upj, if_neg (by decide)]; exact h13, by rw [upj, if_pos rfl]; exact hv, fun q => by cases q⟩
theorem cMod.fm {K : kS} {σ : mc_G} {a : Nat} (hT : cMT K.1 σ) (hP : cMP K.2.1 σ) (hB : cMB K.2.2.1 σ) (h13 : σ 167 13 = bI false) (hv : σ 167 14 = nI a) : cMod (kM K false a) σ := ⟨hT, hP, hB, h13, hv, fun q => by cases q⟩
theorem kM_M (K : kS) (a b : Nat) : kM (kM K false a) false b = kM K false b := rfl
theorem nI_m1 : ∀ i, i < 30 → ¬ nI i = -1 := by decide +kernel
theorem up_13 {σ : mc_G} {v : Int32} : mc_up σ 167 13 v 167 13 = v := by rw [upj, if_pos rfl]
set_option maxRecDepth 100000 in
theorem lX12_mkL {K : kS} (hk : kOk K) {Z : hS} {σ0 : mc_G} {Φ : Option mc_V → mc_G → Prop} : ∀ (n i : Nat) (x : Int32) (σ : mc_G), x = nI i → i + n = pn K.2.1 → cMod (kM K false 0) σ → mHF Z σ → ofR 167 186 σ0 σ → (∀ (σ1 : mc_G), ¬ (lfN Z n i).1 = 0 → cMod (kM K false (lfN Z n i).1) σ1 → ofR 167 186 σ0 σ1 → Φ (some (.inl (-10 - nI (lfN Z n i).2))) σ1) → (∀ (x1 : Int32) (σ1 : mc_G), (lfN Z n i).1 = 0 → cMod (kM K false 0) σ1 → mHF Z σ1 → ofR 167 186 σ0 σ1 → Wp miX12_make 62 [(0, .inr (some 167)), (1, .inl x1)] [] σ1 Φ) → Wp miX12_make 27 [(0, .inr (some 167)), (1, .inl x)] [] σ Φ := by
  have hn30 := hk.2.1.1
  intro n
  induction n with
  | zero =>
    intro i x σ hx hi hM hZ ho k1 k2
    iterate 4 refine Wp.go rfl ?_
    refine Wp.geN (a := i) (b := pn K.2.1) hx hM.2.1.1 (by omega) (by omega) (fun (h1 : ¬ i < pn K.2.1) => ?_) (fun (h1 : i < pn K.2.1) => by omega)
    exact k2 x σ rfl hM hZ ho
  | succ n ih =>
    intro i x σ hx hi hM hZ ho k1 k2
    have hf4 := hf_4 Z i
    iterate 4 refine Wp.go rfl ?_
    refine Wp.geN (a := i) (b := pn K.2.1) hx hM.2.1.1 (by omega) (by omega) (fun (h1 : ¬ i < pn K.2.1) => by omega) (fun (h1 : i < pn K.2.1) => ?_)
    iterate 3 refine Wp.go rfl ?_
    refine Wp.call rfl cqX12_faultOf (sX12_faultOf hZ hx (by omega)) (fun rv1 s1 hq1 => ?_)
    obtain ⟨rfl, hq1⟩ := hq1
    replace hq1 := hq1.symm
    subst hq1
    iterate 4 refine Wp.go rfl ?_
    have hM1 : cMod (kM K false (hfA Z i)) (mc_up σ 167 14 (nI (hfA Z i))) := cMod.fl hM.1 hM.2.1 hM.2.2.1 hM.2.2.2.1 rfl
    have o1 : mo [] [14] σ (mc_up σ 167 14 (nI (hfA Z i))) := mo.f σ (by decide) _
    have r1 := ho.tr (o1.r (by decide))
    refine Wp.leN (a := hfA Z i) (b := 0) hM1.2.2.2.2.1 (rfl : _ = nI 0) (by omega) (by omega) (fun (h2 : ¬ 0 < hfA Z i) => ?_) (fun (h2 : 0 < hfA Z i) => ?_)
    · have e0 : hfA Z i = 0 := by omega
      have e1 : lfN Z (n + 1) i = lfN Z n (i + 1) := by show (if _ then _ else _) = _; rw [if_pos e0]
      iterate 2 refine Wp.go rfl ?_
      refine Wp.lo (lo := [(0, .inr (some 167)), (1, .inl _)]) ⟨rfl, rfl, trivial⟩ ?_
      have hM1 : cMod (kM K false 0) (mc_up σ 167 14 (nI (hfA Z i))) := cMod.fl hM.1 hM.2.1 hM.2.2.1 hM.2.2.2.1 (by rw [e0])
      rw [e1] at k1 k2
      exact ih (i + 1) _ _ (nE_add hx (rfl : _ = nI 1)) (by omega) hM1 (hZ.o o1) r1 k1 k2
    · have e1 : lfN Z (n + 1) i = (hfA Z i, i) := by show (if _ then _ else _) = _; rw [if_neg (by omega)]
      rw [e1] at k1
      iterate 3 refine Wp.go rfl ?_
      refine Wp.ret rfl ?_
      have := k1 _ (show ¬ hfA Z i = 0 by omega) hM1 r1
      rw [← hx] at this
      exact this
set_option maxRecDepth 100000 in
theorem lX12_mk {K : kS} {σ : mc_G} (hM : cMod K σ) (hk : kOk K) {Φ : Option mc_V → mc_G → Prop} (k1 : ∀ (σ1 : mc_G), ¬ (lfM K.2.1).1 = 0 → cMod (kM K false (lfM K.2.1).1) σ1 → ofR 167 186 σ σ1 → Φ (some (.inl (-10 - nI (lfM K.2.1).2))) σ1) (k2 : ∀ (x1 : Int32) (σ1 : mc_G), (lfM K.2.1).1 = 0 → ¬ pn K.2.1 = 0 → cMod (kM K false 0) σ1 → mHF (mZA K.2.1) σ1 → ofR 167 186 σ σ1 → Wp miX12_make 62 [(0, .inr (some 167)), (1, .inl x1)] [] σ1 Φ) : Wp miX12_make 0 [(0, .inr (some 167))] [] σ Φ := by
  iterate 10 refine Wp.go rfl ?_
  let τ : mc_G := mc_up (mc_up (mc_up σ 167 0 0) 167 13 0) 167 14 0
  have oτ : mo [] [0, 13, 14] σ τ := ((mo.f _ (by decide) _).tr (mo.f _ (by decide) _)).tr (mo.f _ (by decide) _)
  have o2 : mo [] [0, 13] σ (mc_up (mc_up σ 167 0 0) 167 13 0) := (mo.f _ (by decide) _).tr (mo.f _ (by decide) _)
  have hτ : cMod (kM K false 0) τ := cMod.fl (hM.1.o o2) (hM.2.1.o o2) (hM.2.2.1.o o2) up_13 rfl
  refine Wp.call rfl cqX12_walk (sX12_walk hk.2.1 hk.2.2.2.1 (σ0 := τ) hτ.2.1 hk.2.2.2.2.1 hk.2.2.1) (fun rv1 s1 hq1 => ?_)
  by_cases hp : pn K.2.1 = 0
  · rw [if_pos hp] at hq1
    obtain ⟨rfl, h14, o1⟩ := hq1
    have e1 : lfM K.2.1 = (1, 0) := by unfold lfM; rw [if_pos hp]
    rw [e1] at k1
    refine Wp.go rfl ?_
    refine Wp.bneE (b := false) rfl (fun q => by cases q) (fun _ => ?_)
    refine Wp.go rfl ?_
    refine Wp.ret rfl ?_
    exact k1 s1 (by decide) (cMod.fm (hτ.1.o o1) (hτ.2.1.o o1) (hτ.2.2.1.o o1) (by rw [o1.2 13 (by decide)]; exact hτ.2.2.2.1) h14) ((oτ.r (by decide)).tr (o1.r (by decide)))
  · rw [if_neg hp] at hq1
    obtain ⟨rfl, hZ, o1⟩ := hq1
    have e1 : lfM K.2.1 = lfN (mZA K.2.1) (pn K.2.1) 0 := by unfold lfM; rw [if_neg hp]
    rw [e1] at k1 k2
    refine Wp.go rfl ?_
    refine Wp.bneE (b := true) rfl (fun _ => ?_) (fun q => by cases q)
    iterate 2 refine Wp.go rfl ?_
    refine Wp.lo (lo := [(0, .inr (some 167)), (1, .inl _)]) ⟨rfl, rfl, trivial⟩ ?_
    exact lX12_mkL hk (pn K.2.1) 0 _ s1 (rfl : _ = nI 0) (by omega) (cMod.fm (hτ.1.o o1) (hτ.2.1.o o1) (hτ.2.2.1.o o1) (by rw [o1.2 13 (by decide)]; exact hτ.2.2.2.1) (by rw [o1.2 14 (by decide)]; exact hτ.2.2.2.2.1)) hZ ((oτ.r (by decide)).tr (o1.r (by decide))) k1 (fun x1 σ1 a1 a2 a3 a4 => k2 x1 σ1 a1 hp a2 a3 a4)
set_option maxRecDepth 100000 in
theorem sX12_make_f {K : kS} {σ : mc_G} (hM : cMod K σ) (hk : kOk K) (h0 : ¬ (lfM K.2.1).1 = 0) : Wp miX12_make 0 [(0, .inr (some 167))] [] σ (fun rv σ' => rv = some (.inl (-10 - nI (lfM K.2.1).2)) ∧ cMod (kM K false (lfM K.2.1).1) σ' ∧ ofR 167 186 σ σ') :=
  lX12_mk hM hk (fun σ1 _ a2 a3 => ⟨rfl, a2, a3⟩) (fun x1 σ1 a1 => absurd a1 h0)
def sEq (S2 S : sS) : Prop := ∀ i, i < 30 → S2.2.1 i = S.2.1 i ∧ (S.2.1 i = true → (S2.1 i).1 = (S.1 i).1 ∧ ∀ j, j < 8 + (S.1 i).1 → (S2.1 i).2 j = (S.1 i).2 j)
theorem mSt.eq {S2 S : sS} {σ : mc_G} (h : mSt S2 σ) (e : sEq S2 S) : mSt S σ := by
  intro i hi
  obtain ⟨e1, e2⟩ := e i hi
  obtain ⟨h1, h2⟩ := h i hi
  rw [e1] at h1 h2
  refine ⟨h1, fun q => ?_⟩
  obtain ⟨e3, e4⟩ := e2 q
  obtain ⟨h3, h4⟩ := h2 q
  rw [e3] at h3 h4
  exact ⟨h3, fun k hk => by rw [← e4 k hk]; exact h4 k hk⟩
/-- what the reference holds when it has made -/
def mM1 (K : kS) (H : Nat → Nat) (S : sS) (Y : yS) (σ : mc_G) : Prop := cMT K.1 σ ∧ cMP K.2.1 σ ∧ cMB K.2.2.1 σ ∧ σ 167 13 = bI true ∧ σ 167 14 = nI 0 ∧ mH7 H σ ∧ mSt S σ ∧ frI Y (pn K.2.1) σ ∧ ∀ a, a < 30 → S.2.1 a = true → ∀ j, j < 8 + (S.1 a).1 → σ 183 (14 * a + j) = nI ((S.1 a).2 j) ∧ (S.1 a).2 j < 300
set_option maxRecDepth 100000 in
theorem lX12_mkW {K : kS} (hk : kOk K) {h : Nat → Nat} {rc : Nat → Bool} (hH : pH K.2.1 h rc) {H : Nat → Nat} {S : sS} (hS1 : nOk K.2.1 K.1 h rc S) (hh : ∀ i, i < 30 → S.2.1 i = true → hiO (H i) = (S.1 i).1) (hFk : ∀ i, i < pn K.2.1 → iFA K.2.1 H i = true → S.2.1 i = true) {σ0 : mc_G} : ∀ (n i : Nat) (x : Int32) (σ : mc_G), x = nI i → i + n = pn K.2.1 → cMod (kM K false 0) σ → mH7 H σ → mSt S σ → ofR 167 186 σ0 σ → fuF K.2.1 K.1 S n i = fuF K.2.1 K.1 S (pn K.2.1) 0 → Wp miX12_make 68 [(0, .inr (some 167)), (1, .inl x)] [] σ (fun rv σ' => if fuF K.2.1 K.1 S (pn K.2.1) 0 = -1 then rv = some (.inl (nI (foR (frS K.2.1 H S) (pn K.2.1) 0 (y0A K.2.2.1)).1.2)) ∧ mM1 K H S (foR (frS K.2.1 H S) (pn K.2.1) 0 (y0A K.2.2.1)) σ' ∧ ofR 167 186 σ0 σ' else rv = some (.inl (-10 - fuF K.2.1 K.1 S (pn K.2.1) 0)) ∧ cMod (kM K false 4) σ' ∧ ofR 167 186 σ0 σ') := by
  have hn30 := hk.2.1.1
  have hG := hk.g
  intro n
  induction n with
  | zero =>
    intro i x σ hx hi hM hZ hS ho hf
    iterate 4 refine Wp.go rfl ?_
    refine Wp.geN (a := i) (b := pn K.2.1) hx hM.2.1.1 (by omega) (by omega) (fun (h1 : ¬ i < pn K.2.1) => ?_) (fun (h1 : i < pn K.2.1) => by omega)
    have e1 : fuF K.2.1 K.1 S (pn K.2.1) 0 = -1 := by rw [← hf]; rfl
    rw [e1]
    iterate 4 refine Wp.go rfl ?_
    have o1 : mo [] [13] σ (mc_up σ 167 13 1) := mo.f _ (by decide) _
    refine Wp.call rfl cqX12_frame (sX12_frame hG (σ := mc_up σ 167 13 1) (hM.2.1.o o1) (hM.2.2.1.o o1) (hZ.o o1) (hS.o o1) hh hFk) (fun rv1 s1 hq1 => ?_)
    obtain ⟨rfl, hY, hR, o2⟩ := hq1
    have o2 : mo [182, 183, 184, 185, 186] [21, 24, 27, 29] (mc_up σ 167 13 1) s1 := o2
    iterate 2 refine Wp.go rfl ?_
    refine Wp.ret rfl ?_
    rw [if_pos rfl]
    exact ⟨rvN hY.1.1 rfl, ⟨(hM.1.o o1).o o2, (hM.2.1.o o1).o o2, (hM.2.2.1.o o1).o o2, by rw [o2.2 13 (by decide)]; exact up_13, by rw [o2.2 14 (by decide), o1.2 14 (by decide)]; exact hM.2.2.2.2.1, (hZ.o o1).o o2, (hS.o o1).o o2, hY, hR⟩, (ho.tr (o1.r (by decide))).tr (o2.r (by decide))⟩
  | succ n ih =>
    intro i x σ hx hi hM hZ hS ho hf
    have hd : decide (i < pn K.2.1) = true := decide_eq_true (by omega)
    iterate 4 refine Wp.go rfl ?_
    refine Wp.geN (a := i) (b := pn K.2.1) hx hM.2.1.1 (by omega) (by omega) (fun (h1 : ¬ i < pn K.2.1) => by omega) (fun (h1 : i < pn K.2.1) => ?_)
    iterate 3 refine Wp.go rfl ?_
    refine Wp.go (if_pos ⟨rfl, rfl, (inE (n := 30) hx (by omega))⟩) ?_
    refine Wp.go rfl ?_
    refine Wp.beqE (b := S.2.1 i) (rdE hx (by omega) (hS i (by omega)).1) (fun h2 => ?_) (fun h2 => ?_)
    · have e1 : fuF K.2.1 K.1 S (n + 1) i = fuF K.2.1 K.1 S n (i + 1) := by show (if _ then _ else _) = _; rw [if_neg (by rw [h2]; simp)]
      rw [e1] at hf
      iterate 2 refine Wp.go rfl ?_
      refine Wp.lo (lo := [(0, .inr (some 167)), (1, .inl _)]) ⟨rfl, rfl, trivial⟩ ?_
      exact ih (i + 1) _ _ (nE_add hx (rfl : _ = nI 1)) (by omega) hM hZ hS ho hf
    · have hr := (hS i (by omega)).2 h2
      have hkr := hS1 i h2
      have hm0 := hH.2.2 i hkr.1
      iterate 6 refine Wp.go rfl ?_
      refine Wp.call rfl cqX12_highOf (sX12_highOf hx (by omega) (hZ i (by omega)).1 (hZ i (by omega)).2) (fun rv1 s1 hq1 => ?_)
      obtain ⟨rfl, hq1⟩ := hq1
      replace hq1 := hq1.symm
      subst hq1
      refine Wp.call rfl cqX12_takeUp (sX12_takeUp179 (f := (S.1 i).2) (h := (S.1 i).1) hx (by omega) (congrArg nI (hh i (by omega) h2)) hr.1 hr.2) (fun rv2 s2 hq2 => ?_)
      obtain ⟨rfl, hE, o2⟩ := hq2
      have hM2 := hM.o o2 (by decide) (by decide)
      iterate 2 refine Wp.go rfl ?_
      refine Wp.call rfl cqX12_isWanted (sX12_isWanted (c := S.1 i) hE hM2.2.1 hG.2.2.2.2.1 hG.2.2.2.2.2 hG.1 hx h1 hn30 hkr.2.2 hM2.1 (op_20 hG i) (by rw [hkr.2.1]; exact hm0.2.1)) (fun rv3 s3 hq3 => ?_)
      obtain ⟨rfl, hq3⟩ := hq3
      replace hq3 := hq3.symm
      subst hq3
      refine Wp.go rfl ?_
      refine Wp.bneE (b := suA K.1 (opA K.2.1 i) (nuN K.2.1 i) (S.1 i)) rfl (fun h3 => ?_) (fun h3 => ?_)
      · have e1 : fuF K.2.1 K.1 S (n + 1) i = fuF K.2.1 K.1 S n (i + 1) := by show (if _ then _ else _) = _; rw [if_neg (by rw [h3]; simp)]
        rw [e1] at hf
        iterate 2 refine Wp.go rfl ?_
        refine Wp.lo (lo := [(0, .inr (some 167)), (1, .inl _)]) ⟨rfl, rfl, trivial⟩ ?_
        exact ih (i + 1) _ _ (nE_add hx (rfl : _ = nI 1)) (by omega) hM2 (hZ.o o2) (hS.o o2) (ho.tr (o2.r (by decide))) hf
      · have e1 : fuF K.2.1 K.1 S (n + 1) i = nI i := by show (if _ then _ else _) = _; rw [if_pos ⟨by rw [hd, h2]; rfl, h3⟩]
        rw [e1] at hf
        have e2 : ¬ nI i = -1 := nI_m1 i (by omega)
        rw [← hf]
        iterate 6 refine Wp.go rfl ?_
        refine Wp.ret rfl ?_
        rw [if_neg e2, hx]
        exact ⟨rfl, cMod.fl hM2.1 hM2.2.1 hM2.2.2.1 hM2.2.2.2.1 rfl, (ho.tr (o2.r (by decide))).tr ((mo.f (cs := []) (fs := [14]) _ (by decide) _).r (by decide))⟩
set_option maxRecDepth 100000 in
theorem sX12_make_s {K : kS} {σ0 : mc_G} (hM0 : cMod K σ0) (hk : kOk K) (hl : (lfM K.2.1).1 = 0) {h : Nat → Nat} {rc : Nat → Bool} (hH : pH K.2.1 h rc) {H : Nat → Nat} (hHe : H = (mZA K.2.1).1) (hhH : ∀ i, rc i = true → hiO (H i) = h i) {I : sS → Prop} (hI1 : ∀ S, I S → nOk K.2.1 K.1 h rc S) (hI2 : ∀ S i, I S → i < 30 → S.2.1 i = true → I (brA K.2.1 K.1 S i)) (hI3 : ∀ S, I S → I (S.1, S.2.1, S.2.2.1, false, S.2.2.2.2)) {μ : sS → Nat} (hμ : ∀ S, I S → (rbA K.2.1 K.1 S).2.2.2.1 = true → μ (rbA K.2.1 K.1 S) < μ S) (hI0 : I (mtA K.1 (pn K.2.1) n0A 0 K.2.2.1)) {S : sS} (hS1 : nOk K.2.1 K.1 h rc S) (hFin : ∀ S1, I S1 → I (rbA K.2.1 K.1 S1) → (rbA K.2.1 K.1 S1).2.2.2.1 = false → sEq (rbA K.2.1 K.1 S1) S) (hFk : ∀ i, i < pn K.2.1 → iFA K.2.1 H i = true → S.2.1 i = true) : Wp miX12_make 0 [(0, .inr (some 167))] [] σ0 (fun rv σ' => if fuF K.2.1 K.1 S (pn K.2.1) 0 = -1 then rv = some (.inl (nI (foR (frS K.2.1 H S) (pn K.2.1) 0 (y0A K.2.2.1)).1.2)) ∧ mM1 K H S (foR (frS K.2.1 H S) (pn K.2.1) 0 (y0A K.2.2.1)) σ' ∧ ofR 167 186 σ0 σ' else rv = some (.inl (-10 - fuF K.2.1 K.1 S (pn K.2.1) 0)) ∧ cMod (kM K false 4) σ' ∧ ofR 167 186 σ0 σ') := by
  have hG := hk.g
  have hn30 := hk.2.1.1
  refine lX12_mk hM0 hk (fun σ1 a1 => absurd hl a1) (fun x1 σ1 _ hp hM hZ ho => ?_)
  have hZ7 : mH7 H σ1 := fun i hi => by rw [hHe]; exact ⟨(hZ i hi).1, (hZ i hi).2.1⟩
  refine Wp.go rfl ?_
  refine Wp.call rfl cqX12_settle (sX12_settle hG hH hI1 hI2 hI3 hμ hM.2.1 hM.1 (fun i hi => ⟨H i, (hZ7 i (by have := (hH.2.2 i hi).1; omega)).1, (hZ7 i (by have := (hH.2.2 i hi).1; omega)).2, hhH i hi⟩) (B := K.2.2.1) hM.2.2.1 hk.2.2.2.2.2.2.1 hk.2.2.2.2.2.2.2 hI0) (fun rv1 s1 hq1 => ?_)
  obtain ⟨rfl, S1, S2, b1, b2, rfl, b4, b5, o1⟩ := hq1
  iterate 2 refine Wp.go rfl ?_
  refine Wp.lo (lo := [(0, .inr (some 167)), (1, .inl _)]) ⟨rfl, rfl, trivial⟩ ?_
  exact lX12_mkW hk hH hS1 (fun i _ q => by rw [hhH i (hS1 i q).1, (hS1 i q).2.1]) hFk (pn K.2.1) 0 _ s1 (rfl : _ = nI 0) (by omega) ⟨hM.1.o o1, hM.2.1.o o1, hM.2.2.1.o o1, by rw [o1.2 13 (by decide)]; exact hM.2.2.2.1, by rw [o1.2 14 (by decide)]; exact hM.2.2.2.2.1, fun q => by cases q⟩ (hZ7.o o1) (b5.eq (hFin S1 b1 b2 b4)) (ho.tr (o1.r (by decide))) rfl

set_option maxRecDepth 100000 in
theorem lX12_tdM {K : kS} {σ : mc_G} (hM : cMod K σ) (hk : kOk K) (hm : K.2.2.2.2.2.2.1 = true) {x : Int32} {Φ : Option mc_V → mc_G → Prop} : ∀ (n i a : Nat) (y z : Int32), z = nI i → i + n = pn K.2.1 → y = nI a → (∀ (y1 z1 : Int32), y1 = nI (foR (crS (pn K.2.1) K.2.2.2.1) n i a) → Wp miX12_told 47 [(0, .inr (some 167)), (1, .inl x), (2, .inl y1), (3, .inl z1)] [] σ Φ) → Wp miX12_told 9 [(0, .inr (some 167)), (1, .inl x), (2, .inl y), (3, .inl z)] [] σ Φ := by
  have hn30 := hk.2.1.1
  intro n
  induction n with
  | zero =>
    intro i a y z hz hi hy kk
    iterate 4 refine Wp.go rfl ?_
    refine Wp.geN (a := i) (b := pn K.2.1) hz hM.2.1.1 (by omega) (by omega) (fun (h1 : ¬ i < pn K.2.1) => ?_) (fun (h1 : i < pn K.2.1) => by omega)
    exact kk y z hy
  | succ n ih =>
    intro i a y z hz hi hy kk
    have kk : ∀ (y1 z1 : Int32), y1 = nI (foR (crS (pn K.2.1) K.2.2.2.1) n (i + 1) (crS (pn K.2.1) K.2.2.2.1 a i)) → Wp miX12_told 47 [(0, .inr (some 167)), (1, .inl x), (2, .inl y1), (3, .inl z1)] [] σ Φ := kk
    have hd : decide (i < pn K.2.1) = true := decide_eq_true (by omega)
    iterate 4 refine Wp.go rfl ?_
    refine Wp.geN (a := i) (b := pn K.2.1) hz hM.2.1.1 (by omega) (by omega) (fun (h1 : ¬ i < pn K.2.1) => by omega) (fun (h1 : i < pn K.2.1) => ?_)
    iterate 4 refine Wp.go rfl ?_
    refine Wp.beqE hM.2.2.2.1 (fun h2 => by rw [hm] at h2; cases h2) (fun _ => ?_)
    iterate 3 refine Wp.go rfl ?_
    refine Wp.go (if_pos ⟨rfl, rfl, (inE (n := 30) hz (by omega))⟩) ?_
    refine Wp.go rfl ?_
    refine Wp.beqE (b := K.2.2.2.1.2.1 i) (rdE hz (by omega) ((hM.2.2.2.2.2 hm).2.1 i (by omega)).1) (fun h2 => ?_) (fun h2 => ?_)
    · iterate 5 refine Wp.go rfl ?_
      refine Wp.lo (lo := [(0, .inr (some 167)), (1, .inl _), (2, .inl _), (3, .inl _)]) ⟨rfl, rfl, rfl, rfl, trivial⟩ ?_
      exact ih (i + 1) _ _ _ (nE_add hz (rfl : _ = nI 1)) (by omega) ((nE_add hy (rfl : _ = nI 0)).trans (congrArg nI (by unfold crS; rw [hd, h2]; rfl))) kk
    · iterate 6 refine Wp.go rfl ?_
      refine Wp.lo (lo := [(0, .inr (some 167)), (1, .inl _), (2, .inl _), (3, .inl _)]) ⟨rfl, rfl, rfl, rfl, trivial⟩ ?_
      exact ih (i + 1) _ _ _ (nE_add hz (rfl : _ = nI 1)) (by omega) ((nE_add hy (rfl : _ = nI 1)).trans (congrArg nI (by unfold crS; rw [hd, h2]; rfl))) kk
set_option maxRecDepth 100000 in
theorem lX12_tdN {K : kS} {σ : mc_G} (hM : cMod K σ) (hk : kOk K) (hm : K.2.2.2.2.2.2.1 = false) {x : Int32} {Φ : Option mc_V → mc_G → Prop} : ∀ (n i : Nat) (y z : Int32), z = nI i → i + n = pn K.2.1 → y = nI 0 → (∀ (y1 z1 : Int32), y1 = nI 0 → Wp miX12_told 47 [(0, .inr (some 167)), (1, .inl x), (2, .inl y1), (3, .inl z1)] [] σ Φ) → Wp miX12_told 9 [(0, .inr (some 167)), (1, .inl x), (2, .inl y), (3, .inl z)] [] σ Φ := by
  have hn30 := hk.2.1.1
  intro n
  induction n with
  | zero =>
    intro i y z hz hi hy kk
    iterate 4 refine Wp.go rfl ?_
    refine Wp.geN (a := i) (b := pn K.2.1) hz hM.2.1.1 (by omega) (by omega) (fun (h1 : ¬ i < pn K.2.1) => ?_) (fun (h1 : i < pn K.2.1) => by omega)
    exact kk y z hy
  | succ n ih =>
    intro i y z hz hi hy kk
    iterate 4 refine Wp.go rfl ?_
    refine Wp.geN (a := i) (b := pn K.2.1) hz hM.2.1.1 (by omega) (by omega) (fun (h1 : ¬ i < pn K.2.1) => by omega) (fun (h1 : i < pn K.2.1) => ?_)
    iterate 4 refine Wp.go rfl ?_
    refine Wp.beqE hM.2.2.2.1 (fun _ => ?_) (fun h2 => by rw [hm] at h2; cases h2)
    iterate 5 refine Wp.go rfl ?_
    refine Wp.lo (lo := [(0, .inr (some 167)), (1, .inl _), (2, .inl _), (3, .inl _)]) ⟨rfl, rfl, rfl, rfl, trivial⟩ ?_
    exact ih (i + 1) _ _ (nE_add hz (rfl : _ = nI 1)) (by omega) (nE_add hy (rfl : _ = nI 0)) kk
set_option maxRecDepth 100000 in
theorem lX12_tdS {K : kS} {σ : mc_G} (hM : cMod K σ) {x y z : Int32} {u : Option Nat} (hu : oV x u) (hy : y = if K.2.2.2.2.2.2.1 = true then nI (foR (crS (pn K.2.1) K.2.2.2.1) (pn K.2.1) 0 0) else 0) : Wp miX12_told 47 [(0, .inr (some 167)), (1, .inl x), (2, .inl y), (3, .inl z)] [] σ (fun rv σ' => rv = some (.inl (tdR K u)) ∧ cMod K σ' ∧ ofR 167 186 σ σ') := by
  rcases u with _ | p
  · have hx : x < 0 := hu
    iterate 2 refine Wp.go rfl ?_
    refine Wp.swN hx (by decide) ?_
    refine Wp.go rfl ?_
    refine Wp.ret rfl ?_
    exact ⟨rfl, hM, ofR.rf⟩
  · obtain ⟨hx, hlp⟩ := hu
    iterate 2 refine Wp.go rfl ?_
    by_cases hsw : 0 ≤ p ∧ p ≤ 4
    · have hsc : p = 0 ∨ p = 1 ∨ p = 2 ∨ p = 3 ∨ p = 4 := by omega
      rcases hsc with hsv | hsv | hsv | hsv | hsv
      · refine Wp.swI 0 hx (by omega) (by omega) (by omega) ?_
        iterate 2 refine Wp.go rfl ?_
        refine Wp.ret rfl ?_
        subst hsv
        exact ⟨congrArg (fun q => some (Sum.inl q)) hM.1.1, hM, ofR.rf⟩
      · refine Wp.swI 1 hx (by omega) (by omega) (by omega) ?_
        iterate 2 refine Wp.go rfl ?_
        refine Wp.ret rfl ?_
        subst hsv
        exact ⟨congrArg (fun q => some (Sum.inl q)) hM.2.1.1, hM, ofR.rf⟩
      · refine Wp.swI 2 hx (by omega) (by omega) (by omega) ?_
        iterate 2 refine Wp.go rfl ?_
        refine Wp.ret rfl ?_
        subst hsv
        exact ⟨congrArg (fun q => some (Sum.inl q)) hM.2.1.2.1, hM, ofR.rf⟩
      · refine Wp.swI 3 hx (by omega) (by omega) (by omega) ?_
        iterate 3 refine Wp.go rfl ?_
        refine Wp.beqE hM.2.2.2.1 (fun (h1 : K.2.2.2.2.2.2.1 = false) => ?_) (fun (h1 : K.2.2.2.2.2.2.1 = true) => ?_)
        · refine Wp.go rfl ?_
          refine Wp.ret rfl ?_
          subst hsv
          refine ⟨congrArg (fun q => some (Sum.inl q)) ?_, hM, ofR.rf⟩
          show _ = (if K.2.2.2.2.2.2.1 = true then nI K.2.2.2.2.1.2.2.2.2 else 0)
          rw [if_neg (by rw [h1]; decide)]
          rfl
        · iterate 3 refine Wp.go rfl ?_
          refine Wp.ret rfl ?_
          subst hsv
          refine ⟨congrArg (fun q => some (Sum.inl q)) ?_, hM, ofR.rf⟩
          show _ = (if K.2.2.2.2.2.2.1 = true then nI K.2.2.2.2.1.2.2.2.2 else 0)
          rw [if_pos h1]
          exact (hM.2.2.2.2.2 (by assumption)).2.2.1.1
      · refine Wp.swI 4 hx (by omega) (by omega) (by omega) ?_
        refine Wp.go rfl ?_
        refine Wp.ret rfl ?_
        subst hsv
        refine ⟨congrArg (fun q => some (Sum.inl q)) ?_, hM, ofR.rf⟩
        show _ = (if K.2.2.2.2.2.2.1 = true then nI (foR (crS (pn K.2.1) K.2.2.2.1) (pn K.2.1) 0 0) else 0)
        exact hy
    · refine Wp.swO hx (by omega) (by omega) ?_
      refine Wp.go rfl ?_
      refine Wp.ret rfl ?_
      refine ⟨congrArg (fun q => some (Sum.inl q)) ?_, hM, ofR.rf⟩
      show _ = (if p = 0 then _ else if p = 1 then _ else if p = 2 then _ else if p = 3 then _ else if p = 4 then _ else _)
      rw [if_neg (show ¬ p = 0 by omega), if_neg (show ¬ p = 1 by omega), if_neg (show ¬ p = 2 by omega), if_neg (show ¬ p = 3 by omega), if_neg (show ¬ p = 4 by omega)]
      rfl
theorem sX12_told {K : kS} {σ : mc_G} (hM : cMod K σ) (hk : kOk K) {x : Int32} {u : Option Nat} (hu : oV x u) : Wp miX12_told 0 [(0, .inr (some 167)), (1, .inl x)] [] σ (fun rv σ' => rv = some (.inl (tdR K u)) ∧ cMod K σ' ∧ ofR 167 186 σ σ') := by
  have hM0 := hM.c 0
  iterate 7 refine Wp.go rfl ?_
  refine Wp.lo (lo := [(0, .inr (some 167)), (1, .inl _), (2, .inl _), (3, .inl _)]) ⟨rfl, rfl, rfl, rfl, trivial⟩ ?_
  have r0 : ofR 167 186 σ (mc_up σ 167 0 0) := (mo.f σ (cs := []) (fs := [0]) (by decide) 0).r (by decide)
  cases hm : K.2.2.2.2.2.2.1
  · refine lX12_tdN hM0 hk hm (pn K.2.1) 0 _ _ (rfl : _ = nI 0) (by omega) rfl (fun y1 z1 a1 => ?_)
    exact (lX12_tdS hM0 hu (by rw [a1, if_neg (by rw [hm]; decide)]; rfl)).mono (fun rv σ1 q => ⟨q.1, q.2.1, r0.tr q.2.2⟩)
  · refine lX12_tdM hM0 hk hm (pn K.2.1) 0 0 _ _ (rfl : _ = nI 0) (by omega) rfl (fun y1 z1 a1 => ?_)
    exact (lX12_tdS hM0 hu (by rw [a1, if_pos hm])).mono (fun rv σ1 q => ⟨q.1, q.2.1, r0.tr q.2.2⟩)
theorem gvU {σ : mc_G} {p v : Int32} {i k j : Nat} (hp : p = nI (14 * i + k)) (hk : k < 14) (hi : i < 30) : mc_up σ 183 p.toNatClampNeg v 183 j = if j = 14 * i + k then v else σ 183 j := by
  rw [clE hp (by omega), upj]
set_option maxRecDepth 100000 in
theorem lX12_pl {K : kS} {σ : mc_G} (hM : cMod K σ) (hk : kOk K) (hd : kMd K) (hm : K.2.2.2.2.2.2.1 = true) {p q r : Nat} (hp : p < K.2.2.2.2.1.2.2.2.2) (hq : q < 8 + (K.2.2.2.2.1.2.2.2.1 p).1) {x y z v : Int32} (hx : x = nI p) (hy : y = nI q) (hz : z = nI r) (hv : v = nI (K.2.2.2.2.1.1 p)) : Wp miX12_plant 114 [(0, .inr (some 167)), (1, .inl x), (2, .inl y), (3, .inl z), (4, .inl v)] [] σ (fun rv σ' => rv = some (.inl (nI ((K.2.2.2.2.1.2.2.2.1 p).2 q), kF K (K.2.2.2.2.1.1, K.2.2.2.2.1.2.1, K.2.2.2.2.1.2.2.1, va_up K.2.2.2.2.1.2.2.2.1 p (ptA (K.2.2.2.2.1.2.2.2.1 p) q r), K.2.2.2.2.1.2.2.2.2)).1) ∧ cMod (nI ((K.2.2.2.2.1.2.2.2.1 p).2 q), kF K (K.2.2.2.2.1.1, K.2.2.2.2.1.2.1, K.2.2.2.2.1.2.2.1, va_up K.2.2.2.2.1.2.2.2.1 p (ptA (K.2.2.2.2.1.2.2.2.1 p) q r), K.2.2.2.2.1.2.2.2.2)).2 σ' ∧ ofR 167 186 σ σ') := by
  have hn30 := hk.2.1.1
  have hfp := (hd hm).2.2.1 p hp
  have hf6 := hfp.2.2.1.1
  have hD := hM.2.2.2.2.2 hm
  have hpl := nE_add (nE_mul (rfl : _ = nI 14) hv) hy
  iterate 7 refine Wp.go rfl ?_
  refine Wp.go (if_pos ⟨rfl, rfl, (inE (n := 420) hpl (by omega))⟩) ?_
  iterate 9 refine Wp.go rfl ?_
  refine Wp.go (if_pos ⟨(show 183 < 187 by decide), rfl, (inE (n := 420) hpl (by omega))⟩) ?_
  refine Wp.go rfl ?_
  refine Wp.ret rfl ?_
  let τ : mc_G := mc_up σ 183 (nI 14 * v + y).toNatClampNeg z
  have o1 : mo [183] [] σ τ := mo.a _ (by decide) (by decide) _ _
  have hu : ∀ j, τ 183 j = if j = 14 * K.2.2.2.2.1.1 p + q then z else σ 183 j := fun j => gvU hpl (by omega) (by omega)
  refine ⟨rvX (rdE hpl (by omega) ((hD.2.2.1.2 p hp).2 q hq)) rfl, ?_, o1.r (by decide)⟩
  show cMod _ τ
  refine ⟨hM.1.o o1, hM.2.1.o o1, hM.2.2.1.o o1, by rw [o1.2 13 (by decide)]; exact hM.2.2.2.1, by rw [o1.2 14 (by decide)]; exact hM.2.2.2.2.1, fun _ => ?_⟩
  unfold mMade
  rw [o1.2 21 (by decide), o1.2 24 (by decide), o1.1 177 (by decide) (by decide), o1.1 179 (by decide) (by decide), o1.1 180 (by decide) (by decide), o1.1 182 (by decide) (by decide), o1.1 184 (by decide) (by decide)]
  refine ⟨hD.1, hD.2.1, ⟨hD.2.2.1.1, fun k hk2 => ⟨(hD.2.2.1.2 k hk2).1, fun j hj => ?_⟩⟩, hD.2.2.2⟩
  show τ 183 (14 * K.2.2.2.2.1.1 k + j) = nI ((va_up K.2.2.2.2.1.2.2.2.1 p (ptA (K.2.2.2.2.1.2.2.2.1 p) q r) k).2 j)
  have hj : j < 8 + (va_up K.2.2.2.2.1.2.2.2.1 p (ptA (K.2.2.2.2.1.2.2.2.1 p) q r) k).1 := hj
  rw [hu]
  by_cases e : k = p
  · subst e
    have e2 : va_up K.2.2.2.2.1.2.2.2.1 k (ptA (K.2.2.2.2.1.2.2.2.1 k) q r) k = ptA (K.2.2.2.2.1.2.2.2.1 k) q r := if_pos rfl
    have e3 : ptA (K.2.2.2.2.1.2.2.2.1 k) q r = ((K.2.2.2.2.1.2.2.2.1 k).1, va_up (K.2.2.2.2.1.2.2.2.1 k).2 q r) := if_pos hq
    rw [e2, e3] at hj ⊢
    by_cases e4 : j = q
    · rw [if_pos (by omega), e4]; exact hz.trans (congrArg nI (if_pos rfl).symm)
    · rw [if_neg (by omega)]
      refine ((hD.2.2.1.2 k hp).2 j hj).trans (congrArg nI ?_)
      exact (if_neg e4).symm
  · have e2 : va_up K.2.2.2.2.1.2.2.2.1 p (ptA (K.2.2.2.2.1.2.2.2.1 p) q r) k = K.2.2.2.2.1.2.2.2.1 k := if_neg e
    rw [e2] at hj ⊢
    have hne : K.2.2.2.2.1.1 k ≠ K.2.2.2.2.1.1 p := fun e5 => e (hd.inj hm hk2 hp e5)
    have hfk := (hd hm).2.2.1 k hk2
    have hk6 := hfk.2.2.1.1
    rw [if_neg (by omega)]
    exact (hD.2.2.1.2 k hk2).2 j hj
set_option maxRecDepth 100000 in
theorem ksX12_plant {K : kS} {σ : mc_G} (hM : cMod K σ) (hk : kOk K) {x y z : Int32} {u v w : Option Nat} (hu : oV x u) (hv : oV y v) (hw : oV z w) (hd : kMd K) : Wp miX12_plant 5 [(0, .inr (some 167)), (1, .inl x), (2, .inl y), (3, .inl z)] [] σ (fun rv σ' => rv = some (.inl (plR K u v w).1) ∧ cMod (plR K u v w).2 σ' ∧ ofR 167 186 σ σ') := by
  have h8 := hk.1.2.1
  have hn30 := hk.2.1.1
  have hm30 := fun q => (hd q).2.1
  have hb96 := fun q => (hd q).2.2.2.2.2
  have h6r : K.2.2.2.2.2.2.1 = true → ∀ i, K.2.2.2.1.2.1 i = true → (K.2.2.2.1.1 i).1 ≤ 6 := fun q i r => by
    obtain ⟨⟨h, rc, _, _, hn⟩, _⟩ := hd q
    exact (hn i r).2.2.1
  obtain ⟨HH, hh7⟩ : ∃ HH : Nat → Nat, K.2.2.2.2.2.2.1 = true → ∀ i, i < 30 → σ 177 i = nI (HH i) ∧ HH i < 128 ∧ decide (¬ HH i = 0) = K.2.2.2.1.2.1 i ∧ (K.2.2.2.1.2.1 i = true → hiO (HH i) = (K.2.2.2.1.1 i).1) := by
    by_cases q : K.2.2.2.2.2.2.1 = true
    · exact ⟨_, fun _ => (hM.2.2.2.2.2 q).1.choose_spec⟩
    · exact ⟨fun _ => 0, fun r => absurd r q⟩
  rcases u with _ | p
  · have hx : x < 0 := hu
    rcases v with _ | q
    · have hy : y < 0 := hv
      rcases w with _ | r
      · have hz : z < 0 := hw
        iterate 3 refine Wp.go rfl ?_
        refine Wp.beqE hM.2.2.2.1 (fun (h1 : K.2.2.2.2.2.2.1 = false) => ?_) (fun (h1 : K.2.2.2.2.2.2.1 = true) => ?_)
        · refine Wp.go rfl ?_
          refine Wp.ret rfl ?_
          exact ⟨rfl, hM, ofR.rf⟩
        · iterate 6 refine Wp.go rfl ?_
          refine Wp.call rfl cqX12_isIn (sX12_isIn_g hx (rfl : _ = nI 0) (by decide)) (fun rv1 s1 hq1 => ?_)
          obtain ⟨rfl, hq1⟩ := hq1
          replace hq1 := hq1.symm
          subst hq1
          refine Wp.go rfl ?_
          refine Wp.bneE (b := false) rfl (fun q => by cases q) (fun _ => ?_)
          refine Wp.go rfl ?_
          refine Wp.ret rfl ?_
          exact ⟨rfl, hM, ofR.rf⟩
      · obtain ⟨hz, hlr⟩ := hw
        iterate 3 refine Wp.go rfl ?_
        refine Wp.beqE hM.2.2.2.1 (fun (h1 : K.2.2.2.2.2.2.1 = false) => ?_) (fun (h1 : K.2.2.2.2.2.2.1 = true) => ?_)
        · refine Wp.go rfl ?_
          refine Wp.ret rfl ?_
          exact ⟨rfl, hM, ofR.rf⟩
        · iterate 6 refine Wp.go rfl ?_
          refine Wp.call rfl cqX12_isIn (sX12_isIn_g hx (rfl : _ = nI 0) (by decide)) (fun rv1 s1 hq1 => ?_)
          obtain ⟨rfl, hq1⟩ := hq1
          replace hq1 := hq1.symm
          subst hq1
          refine Wp.go rfl ?_
          refine Wp.bneE (b := false) rfl (fun q => by cases q) (fun _ => ?_)
          refine Wp.go rfl ?_
          refine Wp.ret rfl ?_
          exact ⟨rfl, hM, ofR.rf⟩
    · obtain ⟨hy, hlq⟩ := hv
      rcases w with _ | r
      · have hz : z < 0 := hw
        iterate 3 refine Wp.go rfl ?_
        refine Wp.beqE hM.2.2.2.1 (fun (h1 : K.2.2.2.2.2.2.1 = false) => ?_) (fun (h1 : K.2.2.2.2.2.2.1 = true) => ?_)
        · refine Wp.go rfl ?_
          refine Wp.ret rfl ?_
          exact ⟨rfl, hM, ofR.rf⟩
        · iterate 6 refine Wp.go rfl ?_
          refine Wp.call rfl cqX12_isIn (sX12_isIn_g hx (rfl : _ = nI 0) (by decide)) (fun rv1 s1 hq1 => ?_)
          obtain ⟨rfl, hq1⟩ := hq1
          replace hq1 := hq1.symm
          subst hq1
          refine Wp.go rfl ?_
          refine Wp.bneE (b := false) rfl (fun q => by cases q) (fun _ => ?_)
          refine Wp.go rfl ?_
          refine Wp.ret rfl ?_
          exact ⟨rfl, hM, ofR.rf⟩
      · obtain ⟨hz, hlr⟩ := hw
        iterate 3 refine Wp.go rfl ?_
        refine Wp.beqE hM.2.2.2.1 (fun (h1 : K.2.2.2.2.2.2.1 = false) => ?_) (fun (h1 : K.2.2.2.2.2.2.1 = true) => ?_)
        · refine Wp.go rfl ?_
          refine Wp.ret rfl ?_
          exact ⟨rfl, hM, ofR.rf⟩
        · iterate 6 refine Wp.go rfl ?_
          refine Wp.call rfl cqX12_isIn (sX12_isIn_g hx (rfl : _ = nI 0) (by decide)) (fun rv1 s1 hq1 => ?_)
          obtain ⟨rfl, hq1⟩ := hq1
          replace hq1 := hq1.symm
          subst hq1
          refine Wp.go rfl ?_
          refine Wp.bneE (b := false) rfl (fun q => by cases q) (fun _ => ?_)
          refine Wp.go rfl ?_
          refine Wp.ret rfl ?_
          exact ⟨rfl, hM, ofR.rf⟩
  · obtain ⟨hx, hlp⟩ := hu
    rcases v with _ | q
    · have hy : y < 0 := hv
      rcases w with _ | r
      · have hz : z < 0 := hw
        iterate 3 refine Wp.go rfl ?_
        refine Wp.beqE hM.2.2.2.1 (fun (h1 : K.2.2.2.2.2.2.1 = false) => ?_) (fun (h1 : K.2.2.2.2.2.2.1 = true) => ?_)
        · refine Wp.go rfl ?_
          refine Wp.ret rfl ?_
          exact ⟨rfl, hM, ofR.rf⟩
        · iterate 6 refine Wp.go rfl ?_
          refine Wp.call rfl cqX12_isIn (sX12_isIn_m hx (by omega) (rfl : _ = nI 0) (iE_sub (hM.2.2.2.2.2 (by assumption)).2.2.1.1 (rfl : _ = nI 1)) (by first | omega | (have := hm30 (by assumption); omega) | (have := hb96 (by assumption); omega) | (have := h6r (by assumption) p (by assumption); omega))) (fun rv1 s1 hq1 => ?_)
          obtain ⟨rfl, hq1⟩ := hq1
          replace hq1 := hq1.symm
          subst hq1
          refine Wp.go rfl ?_
          refine Wp.bneD (p := p < K.2.2.2.2.1.2.2.2.2) rfl (fun (h2 : p < K.2.2.2.2.1.2.2.2.2) => ?_) (fun (h2 : ¬ (p < K.2.2.2.2.1.2.2.2.2)) => ?_)
          · have hfp := (hd (by assumption)).2.2.1 p (by omega)
            have hf6 := hfp.2.2.1.1
            iterate 3 refine Wp.go rfl ?_
            refine Wp.go (if_pos ⟨rfl, rfl, (inE (n := 30) hx (by first | omega | (have := hm30 (by assumption); omega) | (have := hb96 (by assumption); omega) | (have := h6r (by assumption) p (by assumption); omega)))⟩) ?_
            iterate 6 refine Wp.go rfl ?_
            refine Wp.call rfl cqX12_highOf (sX12_highOf (rdE hx (by first | omega | (have := hm30 (by assumption); omega) | (have := hb96 (by assumption); omega) | (have := h6r (by assumption) p (by assumption); omega)) ((hM.2.2.2.2.2 (by assumption)).2.2.1.2 p (by omega)).1) (by omega) (hh7 (by assumption) _ (by omega)).1 (hh7 (by assumption) _ (by omega)).2.1) (fun rv2 s2 hq2 => ?_)
            obtain ⟨rfl, hq2⟩ := hq2
            replace hq2 := hq2.symm
            subst hq2
            iterate 3 refine Wp.go rfl ?_
            refine Wp.call rfl cqX12_isIn (sX12_isIn_g hy (rfl : _ = nI 0) (by decide)) (fun rv3 s3 hq3 => ?_)
            obtain ⟨rfl, hq3⟩ := hq3
            replace hq3 := hq3.symm
            subst hq3
            refine Wp.go rfl ?_
            refine Wp.beqE (b := false) rfl (fun _ => ?_) (fun q => by cases q)
            iterate 4 refine Wp.go rfl ?_
            refine Wp.neN (a := 0) (b := 0) (rfl : _ = nI 0) (rfl : _ = nI 0) (by decide) (by decide) (fun q => absurd q (by decide)) (fun _ => ?_)
            refine Wp.go rfl ?_
            refine Wp.ret rfl ?_
            exact ⟨rfl, hM, ofR.rf⟩
          · refine Wp.go rfl ?_
            refine Wp.ret rfl ?_
            exact ⟨rfl, hM, ofR.rf⟩
      · obtain ⟨hz, hlr⟩ := hw
        iterate 3 refine Wp.go rfl ?_
        refine Wp.beqE hM.2.2.2.1 (fun (h1 : K.2.2.2.2.2.2.1 = false) => ?_) (fun (h1 : K.2.2.2.2.2.2.1 = true) => ?_)
        · refine Wp.go rfl ?_
          refine Wp.ret rfl ?_
          exact ⟨rfl, hM, ofR.rf⟩
        · iterate 6 refine Wp.go rfl ?_
          refine Wp.call rfl cqX12_isIn (sX12_isIn_m hx (by omega) (rfl : _ = nI 0) (iE_sub (hM.2.2.2.2.2 (by assumption)).2.2.1.1 (rfl : _ = nI 1)) (by first | omega | (have := hm30 (by assumption); omega) | (have := hb96 (by assumption); omega) | (have := h6r (by assumption) p (by assumption); omega))) (fun rv1 s1 hq1 => ?_)
          obtain ⟨rfl, hq1⟩ := hq1
          replace hq1 := hq1.symm
          subst hq1
          refine Wp.go rfl ?_
          refine Wp.bneD (p := p < K.2.2.2.2.1.2.2.2.2) rfl (fun (h2 : p < K.2.2.2.2.1.2.2.2.2) => ?_) (fun (h2 : ¬ (p < K.2.2.2.2.1.2.2.2.2)) => ?_)
          · have hfp := (hd (by assumption)).2.2.1 p (by omega)
            have hf6 := hfp.2.2.1.1
            iterate 3 refine Wp.go rfl ?_
            refine Wp.go (if_pos ⟨rfl, rfl, (inE (n := 30) hx (by first | omega | (have := hm30 (by assumption); omega) | (have := hb96 (by assumption); omega) | (have := h6r (by assumption) p (by assumption); omega)))⟩) ?_
            iterate 6 refine Wp.go rfl ?_
            refine Wp.call rfl cqX12_highOf (sX12_highOf (rdE hx (by first | omega | (have := hm30 (by assumption); omega) | (have := hb96 (by assumption); omega) | (have := h6r (by assumption) p (by assumption); omega)) ((hM.2.2.2.2.2 (by assumption)).2.2.1.2 p (by omega)).1) (by omega) (hh7 (by assumption) _ (by omega)).1 (hh7 (by assumption) _ (by omega)).2.1) (fun rv2 s2 hq2 => ?_)
            obtain ⟨rfl, hq2⟩ := hq2
            replace hq2 := hq2.symm
            subst hq2
            iterate 3 refine Wp.go rfl ?_
            refine Wp.call rfl cqX12_isIn (sX12_isIn_g hy (rfl : _ = nI 0) (by decide)) (fun rv3 s3 hq3 => ?_)
            obtain ⟨rfl, hq3⟩ := hq3
            replace hq3 := hq3.symm
            subst hq3
            refine Wp.go rfl ?_
            refine Wp.beqE (b := false) rfl (fun _ => ?_) (fun q => by cases q)
            iterate 4 refine Wp.go rfl ?_
            refine Wp.neN (a := 0) (b := 0) (rfl : _ = nI 0) (rfl : _ = nI 0) (by decide) (by decide) (fun q => absurd q (by decide)) (fun _ => ?_)
            refine Wp.go rfl ?_
            refine Wp.ret rfl ?_
            exact ⟨rfl, hM, ofR.rf⟩
          · refine Wp.go rfl ?_
            refine Wp.ret rfl ?_
            exact ⟨rfl, hM, ofR.rf⟩
    · obtain ⟨hy, hlq⟩ := hv
      rcases w with _ | r
      · have hz : z < 0 := hw
        iterate 3 refine Wp.go rfl ?_
        refine Wp.beqE hM.2.2.2.1 (fun (h1 : K.2.2.2.2.2.2.1 = false) => ?_) (fun (h1 : K.2.2.2.2.2.2.1 = true) => ?_)
        · refine Wp.go rfl ?_
          refine Wp.ret rfl ?_
          exact ⟨rfl, hM, ofR.rf⟩
        · iterate 6 refine Wp.go rfl ?_
          refine Wp.call rfl cqX12_isIn (sX12_isIn_m hx (by omega) (rfl : _ = nI 0) (iE_sub (hM.2.2.2.2.2 (by assumption)).2.2.1.1 (rfl : _ = nI 1)) (by first | omega | (have := hm30 (by assumption); omega) | (have := hb96 (by assumption); omega) | (have := h6r (by assumption) p (by assumption); omega))) (fun rv1 s1 hq1 => ?_)
          obtain ⟨rfl, hq1⟩ := hq1
          replace hq1 := hq1.symm
          subst hq1
          refine Wp.go rfl ?_
          refine Wp.bneD (p := p < K.2.2.2.2.1.2.2.2.2) rfl (fun (h2 : p < K.2.2.2.2.1.2.2.2.2) => ?_) (fun (h2 : ¬ (p < K.2.2.2.2.1.2.2.2.2)) => ?_)
          · have hfp := (hd (by assumption)).2.2.1 p (by omega)
            have hf6 := hfp.2.2.1.1
            have hvb : q < 8 + (K.2.2.2.2.1.2.2.2.1 p).1 → (K.2.2.2.2.1.2.2.2.1 p).2 q < 300 := fun r => vK_b hk.1 hn30 (hfp.2.2.1.2.1 q r)
            iterate 3 refine Wp.go rfl ?_
            refine Wp.go (if_pos ⟨rfl, rfl, (inE (n := 30) hx (by first | omega | (have := hm30 (by assumption); omega) | (have := hb96 (by assumption); omega) | (have := h6r (by assumption) p (by assumption); omega)))⟩) ?_
            iterate 6 refine Wp.go rfl ?_
            refine Wp.call rfl cqX12_highOf (sX12_highOf (rdE hx (by first | omega | (have := hm30 (by assumption); omega) | (have := hb96 (by assumption); omega) | (have := h6r (by assumption) p (by assumption); omega)) ((hM.2.2.2.2.2 (by assumption)).2.2.1.2 p (by omega)).1) (by omega) (hh7 (by assumption) _ (by omega)).1 (hh7 (by assumption) _ (by omega)).2.1) (fun rv2 s2 hq2 => ?_)
            obtain ⟨rfl, hq2⟩ := hq2
            replace hq2 := hq2.symm
            subst hq2
            iterate 3 refine Wp.go rfl ?_
            refine Wp.call rfl cqX12_isIn (sX12_isIn_n hy (by omega) (rfl : _ = nI 0) (by omega) (nE_sub (nE_add (rfl : _ = nI 8) (congrArg nI (((hh7 (by assumption) _ (by omega)).2.2.2 hfp.2.1).trans hfp.2.2.2.1.symm))) (rfl : _ = nI 1) (by first | omega | (have := hm30 (by assumption); omega) | (have := hb96 (by assumption); omega) | (have := h6r (by assumption) p (by assumption); omega))) (by omega)) (fun rv3 s3 hq3 => ?_)
            obtain ⟨rfl, hq3⟩ := hq3
            replace hq3 := hq3.symm
            subst hq3
            refine Wp.go rfl ?_
            refine Wp.beqD (p := 0 ≤ q ∧ q ≤ (8 + ((K.2.2.2.2.1.2.2.2.1 p).1)) - 1) rfl (fun (h3 : ¬ (0 ≤ q ∧ q ≤ (8 + ((K.2.2.2.2.1.2.2.2.1 p).1)) - 1)) => ?_) (fun (h3 : 0 ≤ q ∧ q ≤ (8 + ((K.2.2.2.2.1.2.2.2.1 p).1)) - 1) => ?_)
            · iterate 4 refine Wp.go rfl ?_
              refine Wp.neN (a := 0) (b := 0) (rfl : _ = nI 0) (rfl : _ = nI 0) (by decide) (by decide) (fun q => absurd q (by decide)) (fun _ => ?_)
              refine Wp.go rfl ?_
              refine Wp.ret rfl ?_
              exact ⟨rfl, hM, ofR.rf⟩
            · iterate 7 refine Wp.go rfl ?_
              refine Wp.go (if_pos ⟨rfl, rfl, (inE (n := 420) (nE_add (nE_mul (rfl : _ = nI 14) (rdE hx (by first | omega | (have := hm30 (by assumption); omega) | (have := hb96 (by assumption); omega) | (have := h6r (by assumption) p (by assumption); omega)) ((hM.2.2.2.2.2 (by assumption)).2.2.1.2 p (by omega)).1)) hy) (by first | omega | (have := hm30 (by assumption); omega) | (have := hb96 (by assumption); omega) | (have := h6r (by assumption) p (by assumption); omega)))⟩) ?_
              refine Wp.call rfl cqX12_isHalfOrLong (sX12_isHalfOrLong (rdE (nE_add (nE_mul (rfl : _ = nI 14) (rdE hx (by first | omega | (have := hm30 (by assumption); omega) | (have := hb96 (by assumption); omega) | (have := h6r (by assumption) p (by assumption); omega)) ((hM.2.2.2.2.2 (by assumption)).2.2.1.2 p (by omega)).1)) hy) (by first | omega | (have := hm30 (by assumption); omega) | (have := hb96 (by assumption); omega) | (have := h6r (by assumption) p (by assumption); omega)) (((hM.2.2.2.2.2 (by assumption)).2.2.1.2 p (by omega)).2 q (by omega))) (by first | omega | (have := hm30 (by assumption); omega) | (have := hb96 (by assumption); omega) | (have := h6r (by assumption) p (by assumption); omega))) (fun rv4 s4 hq4 => ?_)
              obtain ⟨rfl, hq4⟩ := hq4
              replace hq4 := hq4.symm
              subst hq4
              refine Wp.go rfl ?_
              refine Wp.bneD (p := (K.2.2.2.2.1.2.2.2.1 p).2 q = 2 ∨ (K.2.2.2.2.1.2.2.2.1 p).2 q = 3) rfl (fun (h5 : (K.2.2.2.2.1.2.2.2.1 p).2 q = 2 ∨ (K.2.2.2.2.1.2.2.2.1 p).2 q = 3) => ?_) (fun (h5 : ¬ ((K.2.2.2.2.1.2.2.2.1 p).2 q = 2 ∨ (K.2.2.2.2.1.2.2.2.1 p).2 q = 3)) => ?_)
              · iterate 4 refine Wp.go rfl ?_
                refine Wp.neN (a := 0) (b := 0) (rfl : _ = nI 0) (rfl : _ = nI 0) (by decide) (by decide) (fun q => absurd q (by decide)) (fun _ => ?_)
                refine Wp.go rfl ?_
                refine Wp.ret rfl ?_
                exact ⟨rfl, hM, ofR.rf⟩
              · iterate 2 refine Wp.go rfl ?_
                refine Wp.eqI (rfl : _ = z) (rfl : _ = nI 0) (fun q => absurd q (neg_nI hz (by first | omega | (have := hm30 (by assumption); omega) | (have := hb96 (by assumption); omega) | (have := h6r (by assumption) p (by assumption); omega)))) (fun _ => ?_)
                iterate 3 refine Wp.go rfl ?_
                refine Wp.eqI (rfl : _ = z) (rfl : _ = nI 1) (fun q => absurd q (neg_nI hz (by first | omega | (have := hm30 (by assumption); omega) | (have := hb96 (by assumption); omega) | (have := h6r (by assumption) p (by assumption); omega)))) (fun _ => ?_)
                iterate 3 refine Wp.go rfl ?_
                refine Wp.eqI (rfl : _ = z) (rfl : _ = nI 4) (fun q => absurd q (neg_nI hz (by first | omega | (have := hm30 (by assumption); omega) | (have := hb96 (by assumption); omega) | (have := h6r (by assumption) p (by assumption); omega)))) (fun _ => ?_)
                iterate 4 refine Wp.go rfl ?_
                refine Wp.call rfl cqX12_isType (sX12_isType_e hM.1 hk.1 (iE_sub (rfl : _ = z) (rfl : _ = nI 100)) hz) (fun rv5 s5 hq5 => ?_)
                obtain ⟨rfl, hq5⟩ := hq5
                replace hq5 := hq5.symm
                subst hq5
                refine Wp.go rfl ?_
                refine Wp.beqE (b := false) rfl (fun _ => ?_) (fun q => by cases q)
                iterate 4 refine Wp.go rfl ?_
                refine Wp.neN (a := 0) (b := 0) (rfl : _ = nI 0) (rfl : _ = nI 0) (by decide) (by decide) (fun q => absurd q (by decide)) (fun _ => ?_)
                refine Wp.go rfl ?_
                refine Wp.ret rfl ?_
                exact ⟨rfl, hM, ofR.rf⟩
          · refine Wp.go rfl ?_
            refine Wp.ret rfl ?_
            exact ⟨rfl, hM, ofR.rf⟩
      · obtain ⟨hz, hlr⟩ := hw
        iterate 3 refine Wp.go rfl ?_
        refine Wp.beqE hM.2.2.2.1 (fun (h1 : K.2.2.2.2.2.2.1 = false) => ?_) (fun (h1 : K.2.2.2.2.2.2.1 = true) => ?_)
        · refine Wp.go rfl ?_
          refine Wp.ret rfl ?_
          have e1 : plR K (some p) (some q) (some r) = (-2, K) := by show (if _ then _ else _) = _; rw [if_neg (by rintro ⟨r1, r2, r3, r4, r5⟩; first | omega | (simp [plK, rfK] at *; first | omega | (simp_all; done) | (simp_all; omega)))]
          rw [e1]
          exact ⟨rfl, hM, ofR.rf⟩
        · iterate 6 refine Wp.go rfl ?_
          refine Wp.call rfl cqX12_isIn (sX12_isIn_m hx (by omega) (rfl : _ = nI 0) (iE_sub (hM.2.2.2.2.2 (by assumption)).2.2.1.1 (rfl : _ = nI 1)) (by first | omega | (have := hm30 (by assumption); omega) | (have := hb96 (by assumption); omega) | (have := h6r (by assumption) p (by assumption); omega))) (fun rv1 s1 hq1 => ?_)
          obtain ⟨rfl, hq1⟩ := hq1
          replace hq1 := hq1.symm
          subst hq1
          refine Wp.go rfl ?_
          refine Wp.bneD (p := p < K.2.2.2.2.1.2.2.2.2) rfl (fun (h2 : p < K.2.2.2.2.1.2.2.2.2) => ?_) (fun (h2 : ¬ (p < K.2.2.2.2.1.2.2.2.2)) => ?_)
          · have hfp := (hd (by assumption)).2.2.1 p (by omega)
            have hf6 := hfp.2.2.1.1
            have hvb : q < 8 + (K.2.2.2.2.1.2.2.2.1 p).1 → (K.2.2.2.2.1.2.2.2.1 p).2 q < 300 := fun r => vK_b hk.1 hn30 (hfp.2.2.1.2.1 q r)
            iterate 3 refine Wp.go rfl ?_
            refine Wp.go (if_pos ⟨rfl, rfl, (inE (n := 30) hx (by first | omega | (have := hm30 (by assumption); omega) | (have := hb96 (by assumption); omega) | (have := h6r (by assumption) p (by assumption); omega)))⟩) ?_
            iterate 6 refine Wp.go rfl ?_
            refine Wp.call rfl cqX12_highOf (sX12_highOf (rdE hx (by first | omega | (have := hm30 (by assumption); omega) | (have := hb96 (by assumption); omega) | (have := h6r (by assumption) p (by assumption); omega)) ((hM.2.2.2.2.2 (by assumption)).2.2.1.2 p (by omega)).1) (by omega) (hh7 (by assumption) _ (by omega)).1 (hh7 (by assumption) _ (by omega)).2.1) (fun rv2 s2 hq2 => ?_)
            obtain ⟨rfl, hq2⟩ := hq2
            replace hq2 := hq2.symm
            subst hq2
            iterate 3 refine Wp.go rfl ?_
            refine Wp.call rfl cqX12_isIn (sX12_isIn_n hy (by omega) (rfl : _ = nI 0) (by omega) (nE_sub (nE_add (rfl : _ = nI 8) (congrArg nI (((hh7 (by assumption) _ (by omega)).2.2.2 hfp.2.1).trans hfp.2.2.2.1.symm))) (rfl : _ = nI 1) (by first | omega | (have := hm30 (by assumption); omega) | (have := hb96 (by assumption); omega) | (have := h6r (by assumption) p (by assumption); omega))) (by omega)) (fun rv3 s3 hq3 => ?_)
            obtain ⟨rfl, hq3⟩ := hq3
            replace hq3 := hq3.symm
            subst hq3
            refine Wp.go rfl ?_
            refine Wp.beqD (p := 0 ≤ q ∧ q ≤ (8 + ((K.2.2.2.2.1.2.2.2.1 p).1)) - 1) rfl (fun (h3 : ¬ (0 ≤ q ∧ q ≤ (8 + ((K.2.2.2.2.1.2.2.2.1 p).1)) - 1)) => ?_) (fun (h3 : 0 ≤ q ∧ q ≤ (8 + ((K.2.2.2.2.1.2.2.2.1 p).1)) - 1) => ?_)
            · iterate 4 refine Wp.go rfl ?_
              refine Wp.neN (a := 0) (b := 0) (rfl : _ = nI 0) (rfl : _ = nI 0) (by decide) (by decide) (fun q => absurd q (by decide)) (fun _ => ?_)
              refine Wp.go rfl ?_
              refine Wp.ret rfl ?_
              have e1 : plR K (some p) (some q) (some r) = (-2, K) := by show (if _ then _ else _) = _; rw [if_neg (by rintro ⟨r1, r2, r3, r4, r5⟩; first | omega | (simp [plK, rfK] at *; first | omega | (simp_all; done) | (simp_all; omega)))]
              rw [e1]
              exact ⟨rfl, hM, ofR.rf⟩
            · iterate 7 refine Wp.go rfl ?_
              refine Wp.go (if_pos ⟨rfl, rfl, (inE (n := 420) (nE_add (nE_mul (rfl : _ = nI 14) (rdE hx (by first | omega | (have := hm30 (by assumption); omega) | (have := hb96 (by assumption); omega) | (have := h6r (by assumption) p (by assumption); omega)) ((hM.2.2.2.2.2 (by assumption)).2.2.1.2 p (by omega)).1)) hy) (by first | omega | (have := hm30 (by assumption); omega) | (have := hb96 (by assumption); omega) | (have := h6r (by assumption) p (by assumption); omega)))⟩) ?_
              refine Wp.call rfl cqX12_isHalfOrLong (sX12_isHalfOrLong (rdE (nE_add (nE_mul (rfl : _ = nI 14) (rdE hx (by first | omega | (have := hm30 (by assumption); omega) | (have := hb96 (by assumption); omega) | (have := h6r (by assumption) p (by assumption); omega)) ((hM.2.2.2.2.2 (by assumption)).2.2.1.2 p (by omega)).1)) hy) (by first | omega | (have := hm30 (by assumption); omega) | (have := hb96 (by assumption); omega) | (have := h6r (by assumption) p (by assumption); omega)) (((hM.2.2.2.2.2 (by assumption)).2.2.1.2 p (by omega)).2 q (by omega))) (by first | omega | (have := hm30 (by assumption); omega) | (have := hb96 (by assumption); omega) | (have := h6r (by assumption) p (by assumption); omega))) (fun rv4 s4 hq4 => ?_)
              obtain ⟨rfl, hq4⟩ := hq4
              replace hq4 := hq4.symm
              subst hq4
              refine Wp.go rfl ?_
              refine Wp.bneD (p := (K.2.2.2.2.1.2.2.2.1 p).2 q = 2 ∨ (K.2.2.2.2.1.2.2.2.1 p).2 q = 3) rfl (fun (h5 : (K.2.2.2.2.1.2.2.2.1 p).2 q = 2 ∨ (K.2.2.2.2.1.2.2.2.1 p).2 q = 3) => ?_) (fun (h5 : ¬ ((K.2.2.2.2.1.2.2.2.1 p).2 q = 2 ∨ (K.2.2.2.2.1.2.2.2.1 p).2 q = 3)) => ?_)
              · iterate 4 refine Wp.go rfl ?_
                refine Wp.neN (a := 0) (b := 0) (rfl : _ = nI 0) (rfl : _ = nI 0) (by decide) (by decide) (fun q => absurd q (by decide)) (fun _ => ?_)
                refine Wp.go rfl ?_
                refine Wp.ret rfl ?_
                have e1 : plR K (some p) (some q) (some r) = (-2, K) := by show (if _ then _ else _) = _; rw [if_neg (by rintro ⟨r1, r2, r3, r4, r5⟩; first | omega | (simp [plK, rfK] at *; first | omega | (simp_all; done) | (simp_all; omega)))]
                rw [e1]
                exact ⟨rfl, hM, ofR.rf⟩
              · iterate 2 refine Wp.go rfl ?_
                refine Wp.eqN (a := r) (b := 0) hz (rfl : _ = nI 0) (by first | omega | (have := hm30 (by assumption); omega) | (have := hb96 (by assumption); omega) | (have := h6r (by assumption) p (by assumption); omega)) (by first | omega | (have := hm30 (by assumption); omega) | (have := hb96 (by assumption); omega) | (have := h6r (by assumption) p (by assumption); omega)) (fun (h7 : r = 0) => ?_) (fun (h7 : ¬ r = 0) => ?_)
                · iterate 5 refine Wp.go rfl ?_
                  refine Wp.neN (a := 1) (b := 0) (rfl : _ = nI 1) (rfl : _ = nI 0) (by decide) (by decide) (fun _ => ?_) (fun q => absurd q (by decide))
                  have e1 : plR K (some p) (some q) (some r) = (nI ((K.2.2.2.2.1.2.2.2.1 p).2 q), kF K (K.2.2.2.2.1.1, K.2.2.2.2.1.2.1, K.2.2.2.2.1.2.2.1, va_up K.2.2.2.2.1.2.2.2.1 p (ptA (K.2.2.2.2.1.2.2.2.1 p) q r), K.2.2.2.2.1.2.2.2.2)) := by show (if _ then _ else _) = _; rw [if_pos ⟨h1, by omega, by simp [plK, rfK] at *; first | omega | (simp_all; done), by omega, by omega⟩]
                  rw [e1]
                  refine Wp.lo (lo := [(0, .inr (some 167)), (1, .inl x), (2, .inl y), (3, .inl z), (4, .inl _)]) ⟨rfl, rfl, rfl, rfl, rfl, trivial⟩ ?_
                  exact lX12_pl hM hk hd h1 (by omega) (by omega) hx hy hz (rdE hx (by first | omega | (have := hm30 (by assumption); omega) | (have := hb96 (by assumption); omega) | (have := h6r (by assumption) p (by assumption); omega)) ((hM.2.2.2.2.2 (by assumption)).2.2.1.2 p (by omega)).1)
                · iterate 3 refine Wp.go rfl ?_
                  refine Wp.eqN (a := r) (b := 1) hz (rfl : _ = nI 1) (by first | omega | (have := hm30 (by assumption); omega) | (have := hb96 (by assumption); omega) | (have := h6r (by assumption) p (by assumption); omega)) (by first | omega | (have := hm30 (by assumption); omega) | (have := hb96 (by assumption); omega) | (have := h6r (by assumption) p (by assumption); omega)) (fun (h9 : r = 1) => ?_) (fun (h9 : ¬ r = 1) => ?_)
                  · iterate 5 refine Wp.go rfl ?_
                    refine Wp.neN (a := 1) (b := 0) (rfl : _ = nI 1) (rfl : _ = nI 0) (by decide) (by decide) (fun _ => ?_) (fun q => absurd q (by decide))
                    have e1 : plR K (some p) (some q) (some r) = (nI ((K.2.2.2.2.1.2.2.2.1 p).2 q), kF K (K.2.2.2.2.1.1, K.2.2.2.2.1.2.1, K.2.2.2.2.1.2.2.1, va_up K.2.2.2.2.1.2.2.2.1 p (ptA (K.2.2.2.2.1.2.2.2.1 p) q r), K.2.2.2.2.1.2.2.2.2)) := by show (if _ then _ else _) = _; rw [if_pos ⟨h1, by omega, by simp [plK, rfK] at *; first | omega | (simp_all; done), by omega, by omega⟩]
                    rw [e1]
                    refine Wp.lo (lo := [(0, .inr (some 167)), (1, .inl x), (2, .inl y), (3, .inl z), (4, .inl _)]) ⟨rfl, rfl, rfl, rfl, rfl, trivial⟩ ?_
                    exact lX12_pl hM hk hd h1 (by omega) (by omega) hx hy hz (rdE hx (by first | omega | (have := hm30 (by assumption); omega) | (have := hb96 (by assumption); omega) | (have := h6r (by assumption) p (by assumption); omega)) ((hM.2.2.2.2.2 (by assumption)).2.2.1.2 p (by omega)).1)
                  · iterate 3 refine Wp.go rfl ?_
                    refine Wp.eqN (a := r) (b := 4) hz (rfl : _ = nI 4) (by first | omega | (have := hm30 (by assumption); omega) | (have := hb96 (by assumption); omega) | (have := h6r (by assumption) p (by assumption); omega)) (by first | omega | (have := hm30 (by assumption); omega) | (have := hb96 (by assumption); omega) | (have := h6r (by assumption) p (by assumption); omega)) (fun (h11 : r = 4) => ?_) (fun (h11 : ¬ r = 4) => ?_)
                    · iterate 5 refine Wp.go rfl ?_
                      refine Wp.neN (a := 1) (b := 0) (rfl : _ = nI 1) (rfl : _ = nI 0) (by decide) (by decide) (fun _ => ?_) (fun q => absurd q (by decide))
                      have e1 : plR K (some p) (some q) (some r) = (nI ((K.2.2.2.2.1.2.2.2.1 p).2 q), kF K (K.2.2.2.2.1.1, K.2.2.2.2.1.2.1, K.2.2.2.2.1.2.2.1, va_up K.2.2.2.2.1.2.2.2.1 p (ptA (K.2.2.2.2.1.2.2.2.1 p) q r), K.2.2.2.2.1.2.2.2.2)) := by show (if _ then _ else _) = _; rw [if_pos ⟨h1, by omega, by simp [plK, rfK] at *; first | omega | (simp_all; done), by omega, by omega⟩]
                      rw [e1]
                      refine Wp.lo (lo := [(0, .inr (some 167)), (1, .inl x), (2, .inl y), (3, .inl z), (4, .inl _)]) ⟨rfl, rfl, rfl, rfl, rfl, trivial⟩ ?_
                      exact lX12_pl hM hk hd h1 (by omega) (by omega) hx hy hz (rdE hx (by first | omega | (have := hm30 (by assumption); omega) | (have := hb96 (by assumption); omega) | (have := h6r (by assumption) p (by assumption); omega)) ((hM.2.2.2.2.2 (by assumption)).2.2.1.2 p (by omega)).1)
                    · iterate 4 refine Wp.go rfl ?_
                      refine Wp.call rfl cqX12_isType (sX12_isType_d hM.1 hk.1 (iE_sub hz (rfl : _ = nI 100)) (by omega)) (fun rv5 s5 hq5 => ?_)
                      obtain ⟨rfl, hq5⟩ := hq5
                      replace hq5 := hq5.symm
                      subst hq5
                      refine Wp.go rfl ?_
                      refine Wp.beqE rfl (fun (h13 : (thK K.1 r) = false) => ?_) (fun (h13 : (thK K.1 r) = true) => ?_)
                      · iterate 4 refine Wp.go rfl ?_
                        refine Wp.neN (a := 0) (b := 0) (rfl : _ = nI 0) (rfl : _ = nI 0) (by decide) (by decide) (fun q => absurd q (by decide)) (fun _ => ?_)
                        refine Wp.go rfl ?_
                        refine Wp.ret rfl ?_
                        have e1 : plR K (some p) (some q) (some r) = (-2, K) := by show (if _ then _ else _) = _; rw [if_neg (by rintro ⟨r1, r2, r3, r4, r5⟩; first | omega | (simp [plK, rfK] at *; first | omega | (simp_all; done) | (simp_all; omega)))]
                        rw [e1]
                        exact ⟨rfl, hM, ofR.rf⟩
                      · iterate 5 refine Wp.go rfl ?_
                        refine Wp.neN (a := 1) (b := 0) (rfl : _ = nI 1) (rfl : _ = nI 0) (by decide) (by decide) (fun _ => ?_) (fun q => absurd q (by decide))
                        have e1 : plR K (some p) (some q) (some r) = (nI ((K.2.2.2.2.1.2.2.2.1 p).2 q), kF K (K.2.2.2.2.1.1, K.2.2.2.2.1.2.1, K.2.2.2.2.1.2.2.1, va_up K.2.2.2.2.1.2.2.2.1 p (ptA (K.2.2.2.2.1.2.2.2.1 p) q r), K.2.2.2.2.1.2.2.2.2)) := by show (if _ then _ else _) = _; rw [if_pos ⟨h1, by omega, by simp [plK, rfK] at *; first | omega | (simp_all; done), by omega, by omega⟩]
                        rw [e1]
                        refine Wp.lo (lo := [(0, .inr (some 167)), (1, .inl x), (2, .inl y), (3, .inl z), (4, .inl _)]) ⟨rfl, rfl, rfl, rfl, rfl, trivial⟩ ?_
                        exact lX12_pl hM hk hd h1 (by omega) (by omega) hx hy hz (rdE hx (by first | omega | (have := hm30 (by assumption); omega) | (have := hb96 (by assumption); omega) | (have := h6r (by assumption) p (by assumption); omega)) ((hM.2.2.2.2.2 (by assumption)).2.2.1.2 p (by omega)).1)
          · refine Wp.go rfl ?_
            refine Wp.ret rfl ?_
            have e1 : plR K (some p) (some q) (some r) = (-2, K) := by show (if _ then _ else _) = _; rw [if_neg (by rintro ⟨r1, r2, r3, r4, r5⟩; first | omega | (simp [plK, rfK] at *; first | omega | (simp_all; done) | (simp_all; omega)))]
            rw [e1]
            exact ⟨rfl, hM, ofR.rf⟩
set_option maxRecDepth 100000 in
theorem sX12_plant {K : kS} {σ : mc_G} (hM : cMod K σ) (hk : kOk K) {x y z : Int32} {u v w : Option Nat} (hu : oV x u) (hv : oV y v) (hw : oV z w) (hd : kMd K) : Wp miX12_plant 0 [(0, .inr (some 167)), (1, .inl x), (2, .inl y), (3, .inl z)] [] σ (fun rv σ' => rv = some (.inl (plR K u v w).1) ∧ cMod (plR K u v w).2 σ' ∧ ofR 167 186 σ σ') := by
  iterate 3 refine Wp.go rfl ?_
  exact (ksX12_plant (hM.c 0) hk hu hv hw hd).mono (fun rv σ1 h => ⟨h.1, h.2.1, ((mo.f σ (cs := []) (fs := [0]) (by decide) 0).r (by decide)).tr h.2.2⟩)

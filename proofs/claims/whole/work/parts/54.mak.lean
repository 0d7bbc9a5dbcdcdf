/-! make -/
def kM (K : kS) (m : Bool) (f : Nat) : kS := (K.1, K.2.1, K.2.2.1, K.2.2.2.1, K.2.2.2.2.1, K.2.2.2.2.2.1, m, f)
def kS1 (K : kS) : sS := swA K.2.1 K.1 100000 (mtA K.1 (pn K.2.1) (s0A K.2.2.2.1) 0 K.2.2.1)
def kF1 (K : kS) : fS := gaA K.2.1 (kS1 K) K.2.2.2.2.1
def kX1 (K : kS) : xS := wrA K.2.2.1 (kS1 K) (kF1 K) K.2.2.2.2.2.1
set_option maxRecDepth 100000 in
theorem sX6_found {σ : mc_G} : Wp miX6_found 0 [(0, .inr (some 13))] [] σ (fun rv σ' => rv = some (.inl (σ 13 4)) ∧ σ' = σ) := by
  iterate 2 refine Wp.go rfl ?_
  refine Wp.ret rfl ?_
  exact ⟨rfl, rfl⟩
def lfG (P : pT) (g : Bool) : Nat × Nat := lfA P (fwA P 100000 (coA (pn P) (z0A g) 0 0)) 30 0 (if pn P = 0 then 1 else 0, 0)
set_option maxRecDepth 100000 in
/-- as far as the sizes -/
theorem lX11_make {K : kS} {σ : mc_G} (hK : cCls K σ) (hk : kOk K) {a b : Nat} (hlf : ∀ g, lfG K.2.1 g = (a, b)) (ha : a < 5) {Φ : Option mc_V → mc_G → Prop} (k1 : ∀ (x : Int32) (σ' : mc_G), x = nI b → cCls (kM K false a) σ' → ofR 0 166 σ σ' → a ≠ 0 → Φ (some (.inl (-10 - x))) σ') (k2 : ∀ (x : Int32) (σ' : mc_G), cCls (kM K false a) σ' → ofR 0 166 σ σ' → a = 0 → Wp miX11_make 43 [(0, .inr (some 0)), (1, .inl x)] [] σ' Φ) : Wp miX11_make 0 [(0, .inr (some 0))] [] σ Φ := by
  have hJ : ∀ k, k < 30 → juA K.2.1 k = true → nuA K.2.1 k = nI (nuN K.2.1 k) ∧ nuN K.2.1 k < 30 := fun k _ h => hk.2.2.2.2.1.2.2 k h
  iterate 3 refine Wp.go rfl ?_
  have hK1 : cCls (kN K) (mc_up σ 0 8 0) := hK.kn
  obtain ⟨Z, hZ⟩ := hK1.2.2.2.1
  iterate 2 refine Wp.go rfl ?_
  refine Wp.call rfl cqX6_followWays (sX6_followWays hk.2.1 hk.2.2.1 hk.2.2.2.1 hJ hZ hK1.2.1 hK1.2.2.2.2.2.2.2.2.2.2) (fun rv1 s1 hq1 => ?_)
  obtain ⟨rfl, hZ1, ho1⟩ := hq1
  have hK2 := hK1.siz ho1.r hZ1
  iterate 2 refine Wp.go rfl ?_
  refine Wp.call rfl cqX6_lookForFault (sX6_lookForFault hk.2.1 hk.2.2.1 hk.2.2.2.1 hJ hK2.2.1 hK2.2.2.2.2.2.2.2.2.2.2 hZ1) (fun rv2 s2 hq2 => ?_)
  obtain ⟨rfl, h13, hZ2, ho2⟩ := hq2
  have hK3 := hK2.siz ho2.r hZ2
  have hl := hlf Z.2.2
  unfold lfG at hl
  rw [hl] at h13
  rw [hl]
  iterate 4 refine Wp.go rfl ?_
  refine Wp.call rfl cqX6_found sX6_found (fun rv3 s3 hq3 => ?_)
  obtain ⟨rfl, hq3⟩ := hq3
  replace hq3 := hq3.symm
  subst hq3
  refine Wp.go rfl ?_
  have hK4 : cCls (kM K false a) (mc_up s2 0 9 (s2 13 4)) := hK3.flt (f := a) h13
  have hR : ofR 0 166 σ (mc_up s2 0 9 (s2 13 4)) := ((((up_r σ 0 8 0).wi (by decide) (by decide)).tr (ho1.r.wi (by decide) (by decide))).tr (ho2.r.wi (by decide) (by decide))).tr ((up_r _ _ _ _).wi (by decide) (by decide))
  iterate 3 refine Wp.go rfl ?_
  refine Wp.eqN (a := a) (b := 0) hK4.2.2.2.2.2.2.2.2.2.1 rfl (by omega) (by decide) (fun h0 => ?_) (fun h0 => ?_)
  · refine Wp.lo (lo := [(0, .inr (some 0)), (1, .inl _)]) ⟨rfl, rfl, trivial⟩ ?_
    exact k2 _ _ hK4 hR h0
  · iterate 3 refine Wp.go rfl ?_
    refine Wp.ret rfl ?_
    exact k1 _ _ rfl hK4 hR h0
set_option maxRecDepth 100000 in
theorem sX11_make_f {K : kS} {σ : mc_G} (hK : cCls K σ) (hk : kOk K) {a b : Nat} (hlf : ∀ g, lfG K.2.1 g = (a, b)) (ha : a < 5) (ha0 : a ≠ 0) : Wp miX11_make 0 [(0, .inr (some 0))] [] σ (fun rv σ' => rv = some (.inl (-10 - nI b)) ∧ cCls (kM K false a) σ' ∧ ofR 0 166 σ σ') := by
  refine lX11_make hK hk hlf ha (fun x σ' hx hc ho _ => ⟨by rw [hx], hc, ho⟩) (fun x σ' _ _ h => absurd h ha0)
def kSet (K : kS) (S : sS) (F : fS) (X : xS) (m : Bool) (f : Nat) : kS := (K.1, K.2.1, K.2.2.1, S, F, X, m, f)
set_option maxRecDepth 100000 in
theorem sX11_make_s {K : kS} {σ : mc_G} (hK : cCls K σ) (hk : kOk K) {b : Nat} (hlf : ∀ g, lfG K.2.1 g = (0, b)) {J : sS → Prop} (hJ1 : ∀ S k, J S → k < 30 → S.2.2.1 k = true → ppA K.2.1 K.1 k (S.1 k)) (hJ2 : ∀ S k, J S → k < 30 → S.2.2.1 k = true → J (svA K.2.1 K.1 (S.1, S.2.1, va_up S.2.2.1 k false, S.2.2.2) k)) (hJ3 : ∀ S, J S → J (S.1, S.2.1, S.2.2.1, false, S.2.2.2.2)) (hJ0 : J (mtA K.1 (pn K.2.1) (s0A K.2.2.2.1) 0 K.2.2.1)) (hW1 : fuF K.2.1 K.1 (kS1 K) (pn K.2.1) 0 = -1 → ∀ k, k < (kF1 K).2.2.2.2 → (kF1 K).1 k < 30) (hW2 : fuF K.2.1 K.1 (kS1 K) (pn K.2.1) 0 = -1 → ∀ k, k + 1 < (kF1 K).2.2.2.2 → (kF1 K).1 k < (kF1 K).1 (k + 1)) : Wp miX11_make 0 [(0, .inr (some 0))] [] σ (fun rv σ' => if fuF K.2.1 K.1 (kS1 K) (pn K.2.1) 0 = -1 then rv = some (.inl (nI (kF1 K).2.2.2.2)) ∧ cCls (kSet K (kS1 K) (kF1 K) (kX1 K) true 0) σ' ∧ ofR 0 166 σ σ' else rv = some (.inl (-10 - fuF K.2.1 K.1 (kS1 K) (pn K.2.1) 0)) ∧ cCls (kSet K (kS1 K) K.2.2.2.2.1 K.2.2.2.2.2.1 false 4) σ' ∧ ofR 0 166 σ σ') := by
  refine lX11_make hK hk hlf (by decide) (fun x σ' _ _ _ h => absurd rfl h) (fun x σ1 hK1 hR1 _ => ?_)
  iterate 4 refine Wp.go rfl ?_
  refine Wp.call rfl cqX7_workOut (sX7_workOut hk.2.1 hk.2.2.1 hk.2.2.2.1 hk.2.2.2.2.1 hk.1 hJ1 hJ2 hJ3 hK1.2.2.2.2.1 hK1.2.1 hK1.1 hK1.2.2.2.2.2.2.2.2.2.2 hK1.2.2.1 hJ0) (fun rv2 s2 hq2 => ?_)
  obtain ⟨rfl, hS2, -, ho2⟩ := hq2
  have hK2 := hK1.sts ho2.r hS2
  have hR2 := hR1.tr (ho2.r.wi (by decide) (by decide))
  iterate 2 refine Wp.go rfl ?_
  refine Wp.call rfl cqX7_firstUnsuited (sX7_firstUnsuited hK2.2.1 hk.2.1 hK2.1 hk.1 hS2 hk.2.2.1 hk.2.2.2.2.1) (fun rv3 s3 hq3 => ?_)
  obtain ⟨rfl, hq3⟩ := hq3
  replace hq3 := hq3.symm
  subst hq3
  iterate 4 refine Wp.go rfl ?_
  refine Wp.eqI (u := fuF K.2.1 K.1 (kS1 K) (pn K.2.1) 0) (v := -1) rfl rfl (fun h1 => ?_) (fun h1 => ?_)
  · iterate 2 refine Wp.go rfl ?_
    refine Wp.call rfl cqX3_gather (sX3_gather hk.2.1 hk.2.2.1 hk.2.2.2.1 hk.2.2.2.2.1 hk.1 hK2.2.2.2.2.2.1 hK2.2.1 hK2.1 hS2) (fun rv4 s4 hq4 => ?_)
    obtain ⟨rfl, hF4, ho4⟩ := hq4
    have hK4 := hK2.frm ho4.r hF4
    iterate 8 refine Wp.go rfl ?_
    refine Wp.call rfl cqX10_write (sX10_write hK4.2.2.2.2.2.2.1 hK4.2.2.1 hK4.2.2.2.2.1 hF4 (hW1 h1) (hW2 h1)) (fun rv5 s5 hq5 => ?_)
    obtain ⟨rfl, hX5, ho5⟩ := hq5
    have hK5 := hK4.wrt ho5.r hX5
    iterate 3 refine Wp.go rfl ?_
    have hK6 := hK5.mad (v := 1) (m := true) rfl
    iterate 2 refine Wp.go rfl ?_
    refine Wp.call rfl cqX3_count (sX3_count hK6.2.2.2.2.2.1) (fun rv7 s7 hq7 => ?_)
    obtain ⟨rfl, hq7⟩ := hq7
    replace hq7 := hq7.symm
    subst hq7
    refine Wp.ret rfl ?_
    show (if _ then _ else _)
    rw [if_pos h1]
    exact ⟨rfl, hK6, ((hR2.tr (ho4.r.wi (by decide) (by decide))).tr (ho5.r.wi (by decide) (by decide))).tr ((up_r _ _ _ _).wi (by decide) (by decide))⟩
  · iterate 6 refine Wp.go rfl ?_
    refine Wp.ret rfl ?_
    show (if _ then _ else _)
    rw [if_neg h1]
    exact ⟨rfl, hK2.flt (v := 4) (f := 4) rfl, hR2.tr ((up_r _ _ _ _).wi (by decide) (by decide))⟩

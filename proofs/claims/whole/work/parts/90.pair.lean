/-! both side by side: the same answer, and they stay side by side -/
def PairG (cC cM : List mc_I) (lc lm : List (Nat × mc_V)) (σ : mc_G) : Prop := Wp cC 0 lc [] σ (fun rv σ1 => ∃ r : Int32, rv = some (.inl r) ∧ Wp cM 0 lm [] σ1 (fun rv2 σ2 => rv2 = some (.inl r) ∧ ∃ K', pIn K' σ2))
theorem pairB {cC cM : List mc_I} {lc lm : List (Nat × mc_V)} {σ : mc_G} {K K' : kS} {r : Int32} (hp : pIn K σ) (ok : kOk K' ∧ kMd K') (hc : Wp cC 0 lc [] σ (fun rv σ' => rv = some (.inl r) ∧ cCls K' σ' ∧ ofR 0 166 σ σ')) (hm : ∀ σ1, cMod K σ1 → Wp cM 0 lm [] σ1 (fun rv σ' => rv = some (.inl r) ∧ cMod K' σ' ∧ ofR 167 186 σ1 σ')) : PairG cC cM lc lm σ :=
  hc.mono (fun _ σ1 q => ⟨r, q.1, (hm σ1 (hp.2.1.rc q.2.2)).mono (fun _ _ p => ⟨p.1, K', q.2.1.rm p.2.2, p.2.1, ok.1, ok.2⟩)⟩)
theorem pa_joined {K : kS} {σ : mc_G} (hp : pIn K σ) (x y : Int32) : PairG miX11_joined miX12_joined [(0, .inr (some 0)), (1, .inl x), (2, .inl y)] [(0, .inr (some 167)), (1, .inl x), (2, .inl y)] σ := by
  obtain ⟨u, hu⟩ := oVx x
  obtain ⟨v, hv⟩ := oVx y
  exact pairB hp hp.2.2 (sX11_joined hp.1 hp.2.2.1 hu hv) (fun σ1 h => sX12_joined h hp.2.2.1 hu hv)
theorem pa_goes {K : kS} {σ : mc_G} (hp : pIn K σ) (x y : Int32) : PairG miX11_goes miX12_goes [(0, .inr (some 0)), (1, .inl x), (2, .inl y)] [(0, .inr (some 167)), (1, .inl x), (2, .inl y)] σ := by
  obtain ⟨u, hu⟩ := oVx x
  obtain ⟨v, hv⟩ := oVx y
  exact pairB hp hp.2.2 (sX11_goes hp.1 hp.2.2.1 hu hv) (fun σ1 h => sX12_goes h hp.2.2.1 hu hv)
theorem pa_fault {K : kS} {σ : mc_G} (hp : pIn K σ) : PairG miX11_fault miX12_fault [(0, .inr (some 0))] [(0, .inr (some 167))] σ :=
  pairB hp hp.2.2 (sX11_fault hp.1 hp.2.2.1) (fun σ1 h => sX12_fault h)
theorem pa_packed {K : kS} {σ : mc_G} (hp : pIn K σ) : PairG miX11_packed miX12_packed [(0, .inr (some 0))] [(0, .inr (some 167))] σ :=
  pairB hp hp.2.2 (sX11_packed hp.1 hp.2.2.1) (fun σ1 h => sX12_packed h)
theorem pa_told {K : kS} {σ : mc_G} (hp : pIn K σ) (x : Int32) : PairG miX11_told miX12_told [(0, .inr (some 0)), (1, .inl x)] [(0, .inr (some 167)), (1, .inl x)] σ := by
  obtain ⟨u, hu⟩ := oVx x
  exact pairB hp hp.2.2 (sX11_told hp.1 hp.2.2.1 hu) (fun σ1 h => sX12_told h hp.2.2.1 hu)
theorem pa_frame {K : kS} {σ : mc_G} (hp : pIn K σ) (x : Int32) : PairG miX11_frame miX12_frame_ [(0, .inr (some 0)), (1, .inl x)] [(0, .inr (some 167)), (1, .inl x)] σ := by
  obtain ⟨u, hu⟩ := oVx x
  exact pairB hp hp.2.2 (sX11_frame hp.1 hp.2.2.1 hu) (fun σ1 h => sX12_frame_ h hp.2.2.1 hu hp.2.2.2)
theorem pa_state {K : kS} {σ : mc_G} (hp : pIn K σ) (x y : Int32) : PairG miX11_state miX12_state [(0, .inr (some 0)), (1, .inl x), (2, .inl y)] [(0, .inr (some 167)), (1, .inl x), (2, .inl y)] σ := by
  obtain ⟨u, hu⟩ := oVx x
  obtain ⟨v, hv⟩ := oVx y
  exact pairB hp hp.2.2 (sX11_state hp.1 hp.2.2.1 hu hv) (fun σ1 h => sX12_state h hp.2.2.1 hu hv hp.2.2.2)
theorem pa_type {K : kS} {σ : mc_G} (hp : pIn K σ) (x : Int32) (f : Bool) : PairG miX11_type miX12_type [(0, .inr (some 0)), (1, .inl x), (2, .inl (bI f))] [(0, .inr (some 167)), (1, .inl x), (2, .inl (bI f))] σ := by
  obtain ⟨u, hu⟩ := oVx x
  refine pairB hp ?_ (sX11_type hp.1 hp.2.2.1 hu (f := f) rfl) (fun σ1 h => sX12_type h hp.2.2.1 hu rfl)
  rcases u with _ | p
  · exact hp.2.2
  · by_cases hb : tyB K.1 p f = true
    · by_cases h8 : tc K.1 < 8
      · have e1 : tyR K f (some p) = (nI (tc K.1), kN (kT K (taA K.1 p f))) := by show (if _ then _ else _) = _; rw [if_pos hb, if_pos h8]
        rw [e1]; exact ⟨kOk_ty hp.2.2.1 hb h8, kMd_f rfl⟩
      · have e1 : tyR K f (some p) = (-3, K) := by show (if _ then _ else _) = _; rw [if_pos hb, if_neg h8]
        rw [e1]; exact hp.2.2
    · have e1 : tyR K f (some p) = (-2, K) := by show (if _ then _ else _) = _; rw [if_neg hb]
      rw [e1]; exact hp.2.2
theorem pa_local {K : kS} {σ : mc_G} (hp : pIn K σ) (x y : Int32) : PairG miX11_local miX12_local [(0, .inr (some 0)), (1, .inl x), (2, .inl y)] [(0, .inr (some 167)), (1, .inl x), (2, .inl y)] σ := by
  obtain ⟨u, hu⟩ := oVx x
  obtain ⟨v, hv⟩ := oVx y
  refine pairB hp ?_ (sX11_local hp.1 hp.2.2.1 hu hv) (fun σ1 h => sX12_local h hp.2.2.1 hu hv)
  have h := kOk_lc hp.2.2.1 u v
  refine ⟨h.1, ?_⟩
  rcases h.2 with e | e
  · rw [e]; exact hp.2.2.2
  · exact kMd_f e
theorem pa_op {K : kS} {σ : mc_G} (hp : pIn K σ) (x y : Int32) : PairG miX11_op miX12_op [(0, .inr (some 0)), (1, .inl x), (2, .inl y)] [(0, .inr (some 167)), (1, .inl x), (2, .inl y)] σ := by
  obtain ⟨u, hu⟩ := oVx x
  obtain ⟨v, hv⟩ := oVx y
  refine pairB hp ?_ (sX11_op hp.1 hp.2.2.1 hu hv) (fun σ1 h => sX12_op h hp.2.2.1 hu hv)
  rcases u with _ | o
  · exact hp.2.2
  · by_cases hb : nfA K.1 o v = true
    · by_cases h8 : pn K.2.1 < 30
      · have e1 : opR K y (some o) v = (nI (pn K.2.1), kN (kP K (paO K.2.1 o y))) := by show (if _ then _ else _) = _; rw [if_pos hb, if_pos h8]
        rw [e1]; exact ⟨kOk_op hp.2.2.1 hv hb h8, kMd_f rfl⟩
      · have e1 : opR K y (some o) v = (-3, K) := by show (if _ then _ else _) = _; rw [if_pos hb, if_neg h8]
        rw [e1]; exact hp.2.2
    · have e1 : opR K y (some o) v = (-2, K) := by show (if _ then _ else _) = _; rw [if_neg hb]
      rw [e1]; exact hp.2.2
theorem pa_handler {K : kS} {σ : mc_G} (hp : pIn K σ) (x y z t : Int32) : PairG miX11_handler miX12_handler [(0, .inr (some 0)), (1, .inl x), (2, .inl y), (3, .inl z), (4, .inl t)] [(0, .inr (some 167)), (1, .inl x), (2, .inl y), (3, .inl z), (4, .inl t)] σ := by
  obtain ⟨u, hu⟩ := oVx x
  obtain ⟨v, hv⟩ := oVx y
  obtain ⟨w, hw⟩ := oVx z
  obtain ⟨s, hs⟩ := oVx t
  refine pairB hp ?_ (sX11_handler hp.1 hp.2.2.1 hu hv hw hs) (fun σ1 h => sX12_handler h hp.2.2.1 hu hv hw hs)
  rcases u with _ | f
  · exact hp.2.2
  rcases v with _ | q
  · exact hp.2.2
  rcases w with _ | a
  · exact hp.2.2
  rcases s with _ | k
  · exact hp.2.2
  by_cases hb : (f < q ∧ q ≤ 30) ∧ a < 30 ∧ k < tc K.1
  · by_cases h8 : qn K.2.1 < 4
    · have e1 : hdR K (some f) (some q) (some a) (some k) = (nI (qn K.2.1), kN (kP K (paH K.2.1 f q a k))) := by show (if _ then _ else _) = _; rw [if_pos hb, if_pos h8]
      rw [e1]; exact ⟨kOk_hd hp.2.2.1 hb h8, kMd_f rfl⟩
    · have e1 : hdR K (some f) (some q) (some a) (some k) = (-3, K) := by show (if _ then _ else _) = _; rw [if_pos hb, if_neg h8]
      rw [e1]; exact hp.2.2
  · have e1 : hdR K (some f) (some q) (some a) (some k) = (-2, K) := by show (if _ then _ else _) = _; rw [if_neg hb]
    rw [e1]; exact hp.2.2
/-! plant -/
theorem gC_pt {P : pT} {T : tT} {c : cS} {p q : Nat} (h : gC P T c) (hp : p < 8 + c.1) (h2 : ¬ (c.2 p = 2 ∨ c.2 p = 3)) (hq : vK P T q) (q2 : q ≠ 2) (q3 : q ≠ 3) : gC P T (ptA c p q) ∧ (ptA c p q).1 = c.1 := by
  have e : ptA c p q = (c.1, va_up c.2 p q) := if_pos hp
  rw [e]
  obtain ⟨g1, g2, g3, g4, g5, g6⟩ := h
  have hv : ∀ j, va_up c.2 p q j = if j = p then q else c.2 j := fun _ => rfl
  refine ⟨⟨g1, fun j hj => ?_, fun j hj h7 => ?_, ?_, ?_, fun hc => ?_⟩, rfl⟩
  · show vK P T (va_up c.2 p q j)
    rw [hv]; split
    · exact hq
    · exact g2 j hj
  · show va_up c.2 p q j = 2 ↔ va_up c.2 p q (j + 1) = 3
    have hj : j + 1 < 8 + c.1 := hj
    have := g3 j hj h7
    rw [hv, hv]
    by_cases e1 : j = p
    · rw [if_pos e1, if_neg (by omega)]
      rw [e1] at this ⊢
      constructor
      · intro r; exact absurd r q2
      · intro r; exact absurd (Or.inl (this.mpr r)) h2
    · rw [if_neg e1]
      by_cases e2 : j + 1 = p
      · rw [if_pos e2]
        rw [e2] at this
        constructor
        · intro r; exact absurd (Or.inr (this.mp r)) h2
        · intro r; exact absurd r q3
      · rw [if_neg e2]; exact this
  · show va_up c.2 p q 7 ≠ 2
    rw [hv]; split
    · exact q2
    · exact g4
  · show va_up c.2 p q 0 ≠ 3
    rw [hv]; split
    · exact q3
    · exact g5
  · have hc : 0 < c.1 := hc
    show va_up c.2 p q 8 ≠ 3 ∧ va_up c.2 p q (7 + c.1) ≠ 2
    rw [hv, hv]
    refine ⟨?_, ?_⟩
    · split
      · exact q3
      · exact (g6 hc).1
    · split
      · exact q2
      · exact (g6 hc).2
theorem kMd_pl {K : kS} (hk : kOk K) (hd : kMd K) (u v w : Option Nat) : kOk (plR K u v w).2 ∧ kMd (plR K u v w).2 := by
  rcases u with _ | k
  · exact ⟨hk, hd⟩
  rcases v with _ | p
  · exact ⟨hk, hd⟩
  rcases w with _ | q
  · exact ⟨hk, hd⟩
  by_cases hb : K.2.2.2.2.2.2.1 = true ∧ k < K.2.2.2.2.1.2.2.2.2 ∧ plK K.1 q = true ∧ p < 8 + (K.2.2.2.2.1.2.2.2.1 k).1 ∧ ¬ ((K.2.2.2.2.1.2.2.2.1 k).2 p = 2 ∨ (K.2.2.2.2.1.2.2.2.1 k).2 p = 3)
  · have e1 : plR K (some k) (some p) (some q) = (nI ((K.2.2.2.2.1.2.2.2.1 k).2 p), kF K (K.2.2.2.2.1.1, K.2.2.2.2.1.2.1, K.2.2.2.2.1.2.2.1, va_up K.2.2.2.2.1.2.2.2.1 k (ptA (K.2.2.2.2.1.2.2.2.1 k) p q), K.2.2.2.2.1.2.2.2.2)) := if_pos hb
    rw [e1]
    obtain ⟨c1, c2, c3, c4, c5⟩ := hb
    refine ⟨hk, fun _ => ?_⟩
    obtain ⟨d1, d2, d3, d4, d5, d6⟩ := hd c1
    have hq : q ≠ 2 ∧ q ≠ 3 := by have := hk.1.2.1; simp [plK, rfK, thK] at c3; omega
    have hg := gC_pt (d3 k c2).2.2.1 c4 c5 (Or.inl c3) hq.1 hq.2
    refine ⟨d1, d2, fun j hj => ?_, d4, d5, d6⟩
    obtain ⟨f1, f2, f3, f4, f5⟩ := d3 j hj
    refine ⟨f1, f2, ?_, ?_, f5⟩
    · show gC K.2.1 K.1 (va_up K.2.2.2.2.1.2.2.2.1 k (ptA (K.2.2.2.2.1.2.2.2.1 k) p q) j)
      by_cases e : j = k
      · rw [show va_up K.2.2.2.2.1.2.2.2.1 k (ptA (K.2.2.2.2.1.2.2.2.1 k) p q) j = ptA (K.2.2.2.2.1.2.2.2.1 k) p q from if_pos e]; exact hg.1
      · rw [show va_up K.2.2.2.2.1.2.2.2.1 k (ptA (K.2.2.2.2.1.2.2.2.1 k) p q) j = K.2.2.2.2.1.2.2.2.1 j from if_neg e]; exact f3
    · show (va_up K.2.2.2.2.1.2.2.2.1 k (ptA (K.2.2.2.2.1.2.2.2.1 k) p q) j).1 = _
      by_cases e : j = k
      · rw [show va_up K.2.2.2.2.1.2.2.2.1 k (ptA (K.2.2.2.2.1.2.2.2.1 k) p q) j = ptA (K.2.2.2.2.1.2.2.2.1 k) p q from if_pos e, hg.2, ← e]; exact f4
      · rw [show va_up K.2.2.2.2.1.2.2.2.1 k (ptA (K.2.2.2.2.1.2.2.2.1 k) p q) j = K.2.2.2.2.1.2.2.2.1 j from if_neg e]; exact f4
  · have e1 : plR K (some k) (some p) (some q) = (-2, K) := if_neg hb
    rw [e1]; exact ⟨hk, hd⟩
theorem pa_plant {K : kS} {σ : mc_G} (hp : pIn K σ) (x y z : Int32) : PairG miX11_plant miX12_plant [(0, .inr (some 0)), (1, .inl x), (2, .inl y), (3, .inl z)] [(0, .inr (some 167)), (1, .inl x), (2, .inl y), (3, .inl z)] σ := by
  obtain ⟨u, hu⟩ := oVx x
  obtain ⟨v, hv⟩ := oVx y
  obtain ⟨w, hw⟩ := oVx z
  exact pairB hp (kMd_pl hp.2.2.1 hp.2.2.2 u v w) (sX11_plant hp.1 hp.2.2.1 hu hv hw (fun q k hk => by have := ((hp.2.2.2 q).2.2.1 k hk).1; have := hp.2.2.1.2.1.1; omega)) (fun σ1 h => sX12_plant h hp.2.2.1 hu hv hw hp.2.2.2)
/-! judge -/
theorem pa_judge {K : kS} {σ : mc_G} (hp : pIn K σ) : PairG miX11_judge miX12_judge [(0, .inr (some 0))] [(0, .inr (some 167))] σ := by
  obtain ⟨hc, hm, hk, hd⟩ := hp
  have hG := hk.g
  refine pairB ⟨hc, hm, hk, hd⟩ ⟨hk, hd⟩ ?_ (fun σ1 h => sX12_judge h hk hd)
  by_cases hmd : K.2.2.2.2.2.2.1 = true
  · obtain ⟨⟨h, rc, hH, hrc, hS⟩, d2, d3, d4, d5, d6⟩ := hd hmd
    refine sX11_judge hc hk (Iv := Jv K.2.1 K.1 h rc) (fun _ j hj => ?_) (fun k J hJ hkn h1 h2 => ⟨fun ho hs => ?_, fun h3 => ?_⟩) (fun k J hJ hkn h1 h2 q => by rw [h2] at q; cases q) (fun _ _ => ⟨hH.1, hk.2.2.2.2.2.2.1.trans hH.2.1.symm, hk.2.2.2.2.2.2.2⟩)
    · obtain ⟨k, a1, a2⟩ := d4 j hj
      have e := (d3 k a1).2.2.2.2
      rw [a2] at e
      rw [e, clE rfl (by omega)]
      exact ⟨rfl, by omega⟩
    · have hJt := hJ.t hd hmd hrc hS hkn h2
      have := gC_13 hG.2.2.2.2.2 hG.1 hJt.2.2 ho hs
      have h8 := hG.1.2.1
      exact ⟨this.1, by omega, this.2.2.1⟩
    · exact (hJ.t hd hmd hrc hS hkn).p hG hH h2 h3
  · exact sX11_judge hc hk (Iv := fun _ _ => False) (fun q => absurd q hmd) (fun _ _ q => absurd q id) (fun _ _ q => absurd q id) (fun q => absurd q hmd)

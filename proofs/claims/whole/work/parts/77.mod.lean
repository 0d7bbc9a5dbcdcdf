/-! what holds of what was made -/
def hN (S : sS) (i : Nat) : Nat := if S.2.1 i = true then 1 else 0
def kMd (K : kS) : Prop := K.2.2.2.2.2.2.1 = true → (∃ (h : Nat → Nat) (rc : Nat → Bool), pH K.2.1 h rc ∧ (∀ i, rc i = K.2.2.2.1.2.1 i) ∧ nOk K.2.1 K.1 h rc K.2.2.2.1) ∧ K.2.2.2.2.1.2.2.2.2 ≤ 30 ∧ (∀ k, k < K.2.2.2.2.1.2.2.2.2 → K.2.2.2.2.1.1 k < pn K.2.1 ∧ K.2.2.2.1.2.1 (K.2.2.2.2.1.1 k) = true ∧ gC K.2.1 K.1 (K.2.2.2.2.1.2.2.2.1 k) ∧ (K.2.2.2.2.1.2.2.2.1 k).1 = (K.2.2.2.1.1 (K.2.2.2.2.1.1 k)).1 ∧ K.2.2.2.2.1.2.1 (K.2.2.2.2.1.1 k) = nI k) ∧ (∀ j, ¬ K.2.2.2.2.1.2.1 j = -1 → ∃ k, k < K.2.2.2.2.1.2.2.2.2 ∧ K.2.2.2.2.1.1 k = j) ∧ (∀ j, j < pn K.2.1 → (iFA K.2.1 (hN K.2.2.2.1) j = true ↔ ¬ K.2.2.2.2.1.2.1 j = -1)) ∧ K.2.2.2.2.2.1.1.1 ≤ 960
theorem vK_b {P : pT} {T : tT} (hO : tOk T) (hn : pn P ≤ 30) {k : Nat} (h : vK P T k) : k < 300 := by
  have h8 := hO.2.1
  rcases h with h | h | h | h
  · simp [plK, rfK, thK] at h; omega
  · omega
  · omega
  · have := op_lt h.2; omega
theorem nI_ij {a b : Nat} (ha : a < 2 ^ 31) (hb : b < 2 ^ 31) (h : nI a = nI b) : a = b := by
  have := congrArg Int32.toInt h
  rw [nI_toInt ha, nI_toInt hb] at this
  omega
theorem kMd.inj {K : kS} (h : kMd K) (hm : K.2.2.2.2.2.2.1 = true) {k j : Nat} (hk : k < K.2.2.2.2.1.2.2.2.2) (hj : j < K.2.2.2.2.1.2.2.2.2) (e : K.2.2.2.2.1.1 k = K.2.2.2.2.1.1 j) : k = j := by
  obtain ⟨-, h30, h3, -⟩ := h hm
  have a := (h3 k hk).2.2.2.2
  have b := (h3 j hj).2.2.2.2
  rw [e, b] at a
  exact nI_ij (by omega) (by omega) a.symm
set_option maxRecDepth 100000 in
theorem sX12_isIn_m {σ : mc_G} {v l m : Int32} {k a : Nat} (hv : v = nI k) (hk : k < 2 ^ 31) (hl : l = nI 0) (hm : m = nI a - nI 1) (ha : a < 2 ^ 31) : Wp miX12_isIn 0 [(0, .inl v), (1, .inl l), (2, .inl m)] [] σ (fun rv σ' => rv = some (.inl (bI (decide (k < a)))) ∧ σ' = σ) := by
  refine sX12_isIn.mono (fun rv σ' h => ⟨?_, h.2⟩)
  have e1 : ¬ v < l := by rw [Int32.lt_iff_toInt_lt, hv, hl, nI_toInt hk, nI_toInt (by decide)]; omega
  have e2 : (m < v) ↔ a ≤ k := by rw [Int32.lt_iff_toInt_lt, hv, hm, sub_toInt ha (by decide), nI_toInt hk]; omega
  rw [h.1, show decide (¬ v < l ∧ ¬ m < v) = decide (k < a) from decide_eq_decide.mpr ⟨fun q => by have := q.2; rw [e2] at this; omega, fun q => ⟨e1, by rw [e2]; omega⟩⟩]
theorem sX12_thrown {σ : mc_G} : Wp miX12_thrown 0 [(0, .inr (some 167))] [] σ (fun rv σ' => rv = some (.inl (σ 167 0)) ∧ σ' = σ) := by
  iterate 2 refine Wp.go rfl ?_
  refine Wp.ret rfl ?_
  exact ⟨rfl, rfl⟩
theorem sX12_fault {K : kS} {σ : mc_G} (hM : cMod K σ) : Wp miX12_fault 0 [(0, .inr (some 167))] [] σ (fun rv σ' => rv = some (.inl (nI K.2.2.2.2.2.2.2)) ∧ cMod K σ' ∧ ofR 167 186 σ σ') := by
  iterate 5 refine Wp.go rfl ?_
  refine Wp.ret rfl ?_
  exact ⟨rvN (hM.c 0).2.2.2.2.1 rfl, hM.c 0, (mo.f σ (cs := []) (fs := [0]) (by decide) 0).r (by decide)⟩
theorem rvX {x y : Int32} {k : Nat} (h : x = nI k) (e : nI k = y) : (some (Sum.inl x) : Option mc_V) = some (.inl y) := by rw [h, e]
set_option maxRecDepth 100000 in
theorem ksX12_frame_ {K : kS} {σ : mc_G} (hM : cMod K σ) (hk : kOk K) {x : Int32} {u : Option Nat} (hu : oV x u) (hd : kMd K) : Wp miX12_frame_ 5 [(0, .inr (some 167)), (1, .inl x)] [] σ (fun rv σ' => rv = some (.inl (frR K u)) ∧ cMod K σ' ∧ ofR 167 186 σ σ') := by
  have h8 := hk.1.2.1
  have hn30 := hk.2.1.1
  have hm30 := fun q => (hd q).2.1
  have hb96 := fun q => (hd q).2.2.2.2.2
  have h6r : K.2.2.2.2.2.2.1 = true → ∀ i, K.2.2.2.1.2.1 i = true → (K.2.2.2.1.1 i).1 ≤ 6 := fun q i r => by
    obtain ⟨⟨h, rc, _, _, hn⟩, _⟩ := hd q
    exact (hn i r).2.2.1
  rcases u with _ | p
  · have hx : x < 0 := hu
    iterate 3 refine Wp.go rfl ?_
    refine Wp.beqE hM.2.2.2.1 (fun (h1 : K.2.2.2.2.2.2.1 = false) => ?_) (fun (h1 : K.2.2.2.2.2.2.1 = true) => ?_)
    · refine Wp.go rfl ?_
      refine Wp.ret rfl ?_
      exact ⟨rfl, hM, ofR.rf⟩
    · iterate 6 refine Wp.go rfl ?_
      refine Wp.call rfl cqX12_isIn (sX12_isIn_g hx (rfl : _ = nI 0) (by decide)) (fun rv1 s1 hq1 => ?_)
      obtain ⟨rfl, hq1⟩ := hq1
      replace hq1 := hq1.symm
      subst hq1
      refine Wp.go rfl ?_
      refine Wp.beqE (b := false) rfl (fun _ => ?_) (fun q => by cases q)
      refine Wp.go rfl ?_
      refine Wp.ret rfl ?_
      exact ⟨rfl, hM, ofR.rf⟩
  · obtain ⟨hx, hlp⟩ := hu
    iterate 3 refine Wp.go rfl ?_
    refine Wp.beqE hM.2.2.2.1 (fun (h1 : K.2.2.2.2.2.2.1 = false) => ?_) (fun (h1 : K.2.2.2.2.2.2.1 = true) => ?_)
    · refine Wp.go rfl ?_
      refine Wp.ret rfl ?_
      refine ⟨congrArg (fun q => some (Sum.inl q)) ?_, hM, ofR.rf⟩
      show _ = (if _ then iuA _ _ else _)
      unfold iuA
      rw [if_neg (by rw [h1]; decide)]
      rfl
    · iterate 6 refine Wp.go rfl ?_
      refine Wp.call rfl cqX12_isIn (sX12_isIn_m hx (by omega) (rfl : _ = nI 0) (iE_sub (hM.2.2.2.2.2 (by assumption)).2.2.1.1 (rfl : _ = nI 1)) (by first | omega | (have := hm30 (by assumption); omega) | (have := hb96 (by assumption); omega) | (have := h6r (by assumption) p (by assumption); omega))) (fun rv1 s1 hq1 => ?_)
      obtain ⟨rfl, hq1⟩ := hq1
      replace hq1 := hq1.symm
      subst hq1
      refine Wp.go rfl ?_
      refine Wp.beqD (p := p < K.2.2.2.2.1.2.2.2.2) rfl (fun (h2 : ¬ (p < K.2.2.2.2.1.2.2.2.2)) => ?_) (fun (h2 : p < K.2.2.2.2.1.2.2.2.2) => ?_)
      · refine Wp.go rfl ?_
        refine Wp.ret rfl ?_
        refine ⟨congrArg (fun q => some (Sum.inl q)) ?_, hM, ofR.rf⟩
        show _ = (if _ then iuA _ _ else _)
        unfold iuA
        rw [if_pos h1, if_neg (by omega)]
        rfl
      · iterate 3 refine Wp.go rfl ?_
        refine Wp.go (if_pos ⟨rfl, rfl, (inE (n := 30) hx (by first | omega | (have := hm30 (by assumption); omega) | (have := hb96 (by assumption); omega) | (have := h6r (by assumption) p (by assumption); omega)))⟩) ?_
        refine Wp.go rfl ?_
        refine Wp.ret rfl ?_
        refine ⟨rvX (rdE hx (by first | omega | (have := hm30 (by assumption); omega) | (have := hb96 (by assumption); omega) | (have := h6r (by assumption) p (by assumption); omega)) ((hM.2.2.2.2.2 (by assumption)).2.2.1.2 p (by omega)).1) ?_, hM, ofR.rf⟩
        show _ = (if _ then iuA _ _ else _)
        unfold iuA
        rw [if_pos h1, if_pos (by omega)]
set_option maxRecDepth 100000 in
theorem sX12_frame_ {K : kS} {σ : mc_G} (hM : cMod K σ) (hk : kOk K) {x : Int32} {u : Option Nat} (hu : oV x u) (hd : kMd K) : Wp miX12_frame_ 0 [(0, .inr (some 167)), (1, .inl x)] [] σ (fun rv σ' => rv = some (.inl (frR K u)) ∧ cMod K σ' ∧ ofR 167 186 σ σ') := by
  iterate 3 refine Wp.go rfl ?_
  exact (ksX12_frame_ (hM.c 0) hk hu hd).mono (fun rv σ1 h => ⟨h.1, h.2.1, ((mo.f σ (cs := []) (fs := [0]) (by decide) 0).r (by decide)).tr h.2.2⟩)
set_option maxRecDepth 100000 in
theorem sX12_packed {K : kS} {σ : mc_G} (hM : cMod K σ) : Wp miX12_packed 0 [(0, .inr (some 167))] [] σ (fun rv σ' => rv = some (.inl (pkR K)) ∧ cMod K σ' ∧ ofR 167 186 σ σ') := by
  iterate 6 refine Wp.go rfl ?_
  refine Wp.beqE (hM.c 0).2.2.2.1 (fun h1 => ?_) (fun h1 => ?_)
  · refine Wp.go rfl ?_
    refine Wp.ret rfl ?_
    refine ⟨?_, hM.c 0, (mo.f σ (cs := []) (fs := [0]) (by decide) 0).r (by decide)⟩
    unfold pkR; rw [if_neg (by rw [h1]; decide)]; rfl
  · iterate 3 refine Wp.go rfl ?_
    refine Wp.ret rfl ?_
    refine ⟨rvX ((hM.c 0).2.2.2.2.2 h1).2.2.2.1 ?_, hM.c 0, (mo.f σ (cs := []) (fs := [0]) (by decide) 0).r (by decide)⟩
    unfold pkR; rw [if_pos h1]
theorem up_0 {σ : mc_G} {v : Int32} : mc_up σ 167 0 v 167 0 = v := by rw [upj, if_pos rfl]
set_option maxRecDepth 100000 in
theorem sX12_out {K : kS} {σ : mc_G} (hM : cMod K σ) (hd : kMd K) {x : Int32} {u : Option Nat} (hu : oV x u) : Wp miX12_out 0 [(0, .inr (some 167)), (1, .inl x)] [] σ (fun rv σ' => (if K.2.2.2.2.2.2.1 = true ∧ (∃ p, u = some p ∧ p < K.2.2.2.2.2.1.1.1) then (∃ p, u = some p ∧ rv = some (.inl (nI (K.2.2.2.2.2.1.1.2 p)))) ∧ σ' 167 0 = 0 else σ' 167 0 = 1 ∧ ∃ y, rv = some (.inl y)) ∧ cMod K σ' ∧ ofR 167 186 σ σ') := by
  have no : ¬ (K.2.2.2.2.2.2.1 = true ∧ (∃ p, u = some p ∧ p < K.2.2.2.2.2.1.1.1)) → Wp miX12_out 26 [(0, .inr (some 167)), (1, .inl x)] [.inl 0] σ (fun rv σ' => (if K.2.2.2.2.2.2.1 = true ∧ (∃ p, u = some p ∧ p < K.2.2.2.2.2.1.1.1) then (∃ p, u = some p ∧ rv = some (.inl (nI (K.2.2.2.2.2.1.1.2 p)))) ∧ σ' 167 0 = 0 else σ' 167 0 = 1 ∧ ∃ y, rv = some (.inl y)) ∧ cMod K σ' ∧ ofR 167 186 σ σ') := by
    intro hn
    iterate 4 refine Wp.go rfl ?_
    refine Wp.beqE (b := false) rfl (fun _ => ?_) (fun q => by cases q)
    iterate 4 refine Wp.go rfl ?_
    refine Wp.beqE (b := false) rfl (fun _ => ?_) (fun q => by cases q)
    refine Wp.go rfl ?_
    refine Wp.ret rfl ?_
    rw [if_neg hn]
    exact ⟨⟨up_0, _, rfl⟩, hM.c 1, (mo.f σ (cs := []) (fs := [0]) (by decide) 1).r (by decide)⟩
  iterate 3 refine Wp.go rfl ?_
  refine Wp.beqE hM.2.2.2.1 (fun h1 => ?_) (fun h1 => ?_)
  · refine Wp.go rfl ?_
    exact no (by rw [h1]; simp)
  · have hw := (hd h1).2.2.2.2.2
    have hb := (hM.2.2.2.2.2 h1).2.2.2
    iterate 6 refine Wp.go rfl ?_
    rcases u with _ | p
    · have hx : x < 0 := hu
      refine Wp.call rfl cqX12_isIn (sX12_isIn_g hx (rfl : _ = nI 0) (by decide)) (fun rv1 s1 hq1 => ?_)
      obtain ⟨rfl, hq1⟩ := hq1
      replace hq1 := hq1.symm
      subst hq1
      refine Wp.go rfl ?_
      refine Wp.beqE (b := false) rfl (fun _ => ?_) (fun q => by cases q)
      refine Wp.go rfl ?_
      exact no (by simp)
    · obtain ⟨hx, hl⟩ := hu
      refine Wp.call rfl cqX12_isIn (sX12_isIn_m hx hl (rfl : _ = nI 0) (iE_sub hb.1 (rfl : _ = nI 1)) (by omega)) (fun rv1 s1 hq1 => ?_)
      obtain ⟨rfl, hq1⟩ := hq1
      replace hq1 := hq1.symm
      subst hq1
      refine Wp.go rfl ?_
      refine Wp.beqD (p := p < K.2.2.2.2.2.1.1.1) rfl (fun h2 => ?_) (fun h2 => ?_)
      · refine Wp.go rfl ?_
        exact no (by simp; intro _; omega)
      · iterate 6 refine Wp.go rfl ?_
        refine Wp.beqE (b := true) rfl (fun q => by cases q) (fun _ => ?_)
        iterate 5 refine Wp.go rfl ?_
        refine Wp.beqE (b := true) rfl (fun q => by cases q) (fun _ => ?_)
        iterate 3 refine Wp.go rfl ?_
        refine Wp.go (if_pos ⟨rfl, rfl, (inE (n := 1200) hx (by omega))⟩) ?_
        refine Wp.go rfl ?_
        refine Wp.ret rfl ?_
        rw [if_pos ⟨h1, p, rfl, h2⟩]
        exact ⟨⟨⟨p, rfl, rvX (rdE hx hl (hb.2 p h2)) rfl⟩, up_0⟩, hM.c 0, (mo.f σ (cs := []) (fs := [0]) (by decide) 0).r (by decide)⟩
set_option maxRecDepth 100000 in
theorem ksX12_state {K : kS} {σ : mc_G} (hM : cMod K σ) (hk : kOk K) {x y : Int32} {u v : Option Nat} (hu : oV x u) (hv : oV y v) (hd : kMd K) : Wp miX12_state 5 [(0, .inr (some 167)), (1, .inl x), (2, .inl y)] [] σ (fun rv σ' => rv = some (.inl (stR K u v)) ∧ cMod K σ' ∧ ofR 167 186 σ σ') := by
  have h8 := hk.1.2.1
  have hn30 := hk.2.1.1
  have hm30 := fun q => (hd q).2.1
  have hb96 := fun q => (hd q).2.2.2.2.2
  have h6r : K.2.2.2.2.2.2.1 = true → ∀ i, K.2.2.2.1.2.1 i = true → (K.2.2.2.1.1 i).1 ≤ 6 := fun q i r => by
    obtain ⟨⟨h, rc, _, _, hn⟩, _⟩ := hd q
    exact (hn i r).2.2.1
  obtain ⟨HH, hh7⟩ : ∃ HH : Nat → Nat, K.2.2.2.2.2.2.1 = true → ∀ i, i < 30 → σ 177 i = nI (HH i) ∧ HH i < 128 ∧ decide (¬ HH i = 0) = K.2.2.2.1.2.1 i ∧ (K.2.2.2.1.2.1 i = true → hiO (HH i) = (K.2.2.2.1.1 i).1) := by
    by_cases q : K.2.2.2.2.2.2.1 = true
    · exact ⟨_, fun _ => (hM.2.2.2.2.2 q).1.choose_spec⟩
    · exact ⟨fun _ => 0, fun r => absurd r q⟩
  rcases u with _ | p
  · have hx : x < 0 := hu
    rcases v with _ | q
    · have hy : y < 0 := hv
      iterate 3 refine Wp.go rfl ?_
      refine Wp.call rfl cqX12_isIn (sX12_isIn_g hy (rfl : _ = nI 0) (by decide)) (fun rv1 s1 hq1 => ?_)
      obtain ⟨rfl, hq1⟩ := hq1
      replace hq1 := hq1.symm
      subst hq1
      refine Wp.go rfl ?_
      refine Wp.bneE (b := false) rfl (fun q => by cases q) (fun _ => ?_)
      refine Wp.go rfl ?_
      refine Wp.ret rfl ?_
      exact ⟨rfl, hM, ofR.rf⟩
    · obtain ⟨hy, hlq⟩ := hv
      iterate 3 refine Wp.go rfl ?_
      refine Wp.call rfl cqX12_isIn (sX12_isIn_n hy (by omega) (rfl : _ = nI 0) (by omega) (rfl : _ = nI 13) (by omega)) (fun rv1 s1 hq1 => ?_)
      obtain ⟨rfl, hq1⟩ := hq1
      replace hq1 := hq1.symm
      subst hq1
      refine Wp.go rfl ?_
      refine Wp.bneD (p := 0 ≤ q ∧ q ≤ 13) rfl (fun (h1 : 0 ≤ q ∧ q ≤ 13) => ?_) (fun (h1 : ¬ (0 ≤ q ∧ q ≤ 13)) => ?_)
      · iterate 3 refine Wp.go rfl ?_
        refine Wp.beqE hM.2.2.2.1 (fun (h2 : K.2.2.2.2.2.2.1 = false) => ?_) (fun (h2 : K.2.2.2.2.2.2.1 = true) => ?_)
        · iterate 4 refine Wp.go rfl ?_
          refine Wp.eqN (a := 0) (b := 0) (rfl : _ = nI 0) (rfl : _ = nI 0) (by decide) (by decide) (fun _ => ?_) (fun q => absurd q (by decide))
          refine Wp.go rfl ?_
          refine Wp.ret rfl ?_
          refine ⟨congrArg (fun q => some (Sum.inl q)) ?_, hM, ofR.rf⟩
          show _ = (if _ then _ else _)
          rw [if_pos (by omega)]
          rfl
        · iterate 6 refine Wp.go rfl ?_
          refine Wp.call rfl cqX12_isIn (sX12_isIn_g hx (rfl : _ = nI 0) (by decide)) (fun rv2 s2 hq2 => ?_)
          obtain ⟨rfl, hq2⟩ := hq2
          replace hq2 := hq2.symm
          subst hq2
          refine Wp.go rfl ?_
          refine Wp.beqE (b := false) rfl (fun _ => ?_) (fun q => by cases q)
          iterate 4 refine Wp.go rfl ?_
          refine Wp.eqN (a := 0) (b := 0) (rfl : _ = nI 0) (rfl : _ = nI 0) (by decide) (by decide) (fun _ => ?_) (fun q => absurd q (by decide))
          refine Wp.go rfl ?_
          refine Wp.ret rfl ?_
          refine ⟨congrArg (fun q => some (Sum.inl q)) ?_, hM, ofR.rf⟩
          show _ = (if _ then _ else _)
          rw [if_pos (by omega)]
          rfl
      · refine Wp.go rfl ?_
        refine Wp.ret rfl ?_
        refine ⟨congrArg (fun q => some (Sum.inl q)) ?_, hM, ofR.rf⟩
        show _ = (if _ then _ else _)
        rw [if_neg (by omega)]
        rfl
  · obtain ⟨hx, hlp⟩ := hu
    rcases v with _ | q
    · have hy : y < 0 := hv
      iterate 3 refine Wp.go rfl ?_
      refine Wp.call rfl cqX12_isIn (sX12_isIn_g hy (rfl : _ = nI 0) (by decide)) (fun rv1 s1 hq1 => ?_)
      obtain ⟨rfl, hq1⟩ := hq1
      replace hq1 := hq1.symm
      subst hq1
      refine Wp.go rfl ?_
      refine Wp.bneE (b := false) rfl (fun q => by cases q) (fun _ => ?_)
      refine Wp.go rfl ?_
      refine Wp.ret rfl ?_
      exact ⟨rfl, hM, ofR.rf⟩
    · obtain ⟨hy, hlq⟩ := hv
      iterate 3 refine Wp.go rfl ?_
      refine Wp.call rfl cqX12_isIn (sX12_isIn_n hy (by omega) (rfl : _ = nI 0) (by omega) (rfl : _ = nI 13) (by omega)) (fun rv1 s1 hq1 => ?_)
      obtain ⟨rfl, hq1⟩ := hq1
      replace hq1 := hq1.symm
      subst hq1
      refine Wp.go rfl ?_
      refine Wp.bneD (p := 0 ≤ q ∧ q ≤ 13) rfl (fun (h1 : 0 ≤ q ∧ q ≤ 13) => ?_) (fun (h1 : ¬ (0 ≤ q ∧ q ≤ 13)) => ?_)
      · iterate 3 refine Wp.go rfl ?_
        refine Wp.beqE hM.2.2.2.1 (fun (h2 : K.2.2.2.2.2.2.1 = false) => ?_) (fun (h2 : K.2.2.2.2.2.2.1 = true) => ?_)
        · iterate 4 refine Wp.go rfl ?_
          refine Wp.eqN (a := 0) (b := 0) (rfl : _ = nI 0) (rfl : _ = nI 0) (by decide) (by decide) (fun _ => ?_) (fun q => absurd q (by decide))
          refine Wp.go rfl ?_
          refine Wp.ret rfl ?_
          refine ⟨congrArg (fun q => some (Sum.inl q)) ?_, hM, ofR.rf⟩
          show _ = (if _ then (if _ then _ else _) else _)
          rw [if_pos (by omega), if_neg (by rintro ⟨r1, ⟨r2, r3⟩, r4⟩; first | omega | simp_all)]
          rfl
        · iterate 6 refine Wp.go rfl ?_
          refine Wp.call rfl cqX12_isIn (sX12_isIn_m hx (by omega) (rfl : _ = nI 0) (iE_sub hM.2.1.1 (rfl : _ = nI 1)) (by first | omega | (have := hm30 (by assumption); omega) | (have := hb96 (by assumption); omega) | (have := h6r (by assumption) p (by assumption); omega))) (fun rv2 s2 hq2 => ?_)
          obtain ⟨rfl, hq2⟩ := hq2
          replace hq2 := hq2.symm
          subst hq2
          refine Wp.go rfl ?_
          refine Wp.beqD (p := p < pn K.2.1) rfl (fun (h4 : ¬ (p < pn K.2.1)) => ?_) (fun (h4 : p < pn K.2.1) => ?_)
          · iterate 4 refine Wp.go rfl ?_
            refine Wp.eqN (a := 0) (b := 0) (rfl : _ = nI 0) (rfl : _ = nI 0) (by decide) (by decide) (fun _ => ?_) (fun q => absurd q (by decide))
            refine Wp.go rfl ?_
            refine Wp.ret rfl ?_
            refine ⟨congrArg (fun q => some (Sum.inl q)) ?_, hM, ofR.rf⟩
            show _ = (if _ then (if _ then _ else _) else _)
            rw [if_pos (by omega), if_neg (by rintro ⟨r1, ⟨r2, r3⟩, r4⟩; first | omega | simp_all)]
            rfl
          · iterate 3 refine Wp.go rfl ?_
            refine Wp.go (if_pos ⟨rfl, rfl, (inE (n := 30) hx (by first | omega | (have := hm30 (by assumption); omega) | (have := hb96 (by assumption); omega) | (have := h6r (by assumption) p (by assumption); omega)))⟩) ?_
            refine Wp.go rfl ?_
            refine Wp.beqE (rdE hx (by first | omega | (have := hm30 (by assumption); omega) | (have := hb96 (by assumption); omega) | (have := h6r (by assumption) p (by assumption); omega)) ((hM.2.2.2.2.2 (by assumption)).2.1 p (by omega)).1) (fun (h6 : (K.2.2.2.1.2.1 p) = false) => ?_) (fun (h6 : (K.2.2.2.1.2.1 p) = true) => ?_)
            · iterate 4 refine Wp.go rfl ?_
              refine Wp.eqN (a := 0) (b := 0) (rfl : _ = nI 0) (rfl : _ = nI 0) (by decide) (by decide) (fun _ => ?_) (fun q => absurd q (by decide))
              refine Wp.go rfl ?_
              refine Wp.ret rfl ?_
              refine ⟨congrArg (fun q => some (Sum.inl q)) ?_, hM, ofR.rf⟩
              show _ = (if _ then (if _ then _ else _) else _)
              rw [if_pos (by omega), if_neg (by rintro ⟨r1, ⟨r2, r3⟩, r4⟩; first | omega | simp_all)]
              rfl
            · iterate 4 refine Wp.go rfl ?_
              refine Wp.call rfl cqX12_highOf (sX12_highOf hx (by omega) (hh7 (by assumption) p (by omega)).1 (hh7 (by assumption) p (by omega)).2.1) (fun rv3 s3 hq3 => ?_)
              obtain ⟨rfl, hq3⟩ := hq3
              replace hq3 := hq3.symm
              subst hq3
              iterate 2 refine Wp.go rfl ?_
              refine Wp.geN (a := q) (b := 8 + ((K.2.2.2.1.1 p).1)) hy (nE_add (rfl : _ = nI 8) (congrArg nI ((hh7 (by assumption) p (by omega)).2.2.2 (by assumption)))) (by first | omega | (have := hm30 (by assumption); omega) | (have := hb96 (by assumption); omega) | (have := h6r (by assumption) p (by assumption); omega)) (by first | omega | (have := hm30 (by assumption); omega) | (have := hb96 (by assumption); omega) | (have := h6r (by assumption) p (by assumption); omega)) (fun (h8 : ¬ q < 8 + ((K.2.2.2.1.1 p).1)) => ?_) (fun (h8 : q < 8 + ((K.2.2.2.1.1 p).1)) => ?_)
              · iterate 4 refine Wp.go rfl ?_
                refine Wp.eqN (a := 0) (b := 0) (rfl : _ = nI 0) (rfl : _ = nI 0) (by decide) (by decide) (fun _ => ?_) (fun q => absurd q (by decide))
                refine Wp.go rfl ?_
                refine Wp.ret rfl ?_
                refine ⟨congrArg (fun q => some (Sum.inl q)) ?_, hM, ofR.rf⟩
                show _ = (if _ then (if _ then _ else _) else _)
                rw [if_pos (by omega), if_neg (by rintro ⟨r1, ⟨r2, r3⟩, r4⟩; first | omega | simp_all)]
                rfl
              · iterate 5 refine Wp.go rfl ?_
                refine Wp.eqN (a := 1) (b := 0) (rfl : _ = nI 1) (rfl : _ = nI 0) (by decide) (by decide) (fun q => absurd q (by decide)) (fun _ => ?_)
                iterate 7 refine Wp.go rfl ?_
                refine Wp.go (if_pos ⟨rfl, rfl, (inE (n := 420) (nE_add (nE_mul (rfl : _ = nI 14) hx) hy) (by first | omega | (have := hm30 (by assumption); omega) | (have := hb96 (by assumption); omega) | (have := h6r (by assumption) p (by assumption); omega)))⟩) ?_
                refine Wp.go rfl ?_
                refine Wp.ret rfl ?_
                refine ⟨rvX (rdE (nE_add (nE_mul (rfl : _ = nI 14) hx) hy) (by first | omega | (have := hm30 (by assumption); omega) | (have := hb96 (by assumption); omega) | (have := h6r (by assumption) p (by assumption); omega)) (((hM.2.2.2.2.2 (by assumption)).2.1 p (by omega)).2 (by assumption) q (by omega))) ?_, hM, ofR.rf⟩
                show _ = (if _ then (if _ then _ else _) else _)
                rw [if_pos (by omega), if_pos ⟨by assumption, ⟨by omega, by assumption⟩, by omega⟩]
      · refine Wp.go rfl ?_
        refine Wp.ret rfl ?_
        refine ⟨congrArg (fun q => some (Sum.inl q)) ?_, hM, ofR.rf⟩
        show _ = (if _ then _ else _)
        rw [if_neg (by omega)]
        rfl
set_option maxRecDepth 100000 in
theorem sX12_state {K : kS} {σ : mc_G} (hM : cMod K σ) (hk : kOk K) {x y : Int32} {u v : Option Nat} (hu : oV x u) (hv : oV y v) (hd : kMd K) : Wp miX12_state 0 [(0, .inr (some 167)), (1, .inl x), (2, .inl y)] [] σ (fun rv σ' => rv = some (.inl (stR K u v)) ∧ cMod K σ' ∧ ofR 167 186 σ σ') := by
  iterate 3 refine Wp.go rfl ?_
  exact (ksX12_state (hM.c 0) hk hu hv hd).mono (fun rv σ1 h => ⟨h.1, h.2.1, ((mo.f σ (cs := []) (fs := [0]) (by decide) 0).r (by decide)).tr h.2.2⟩)

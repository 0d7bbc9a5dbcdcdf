set_option maxRecDepth 100000 in
theorem lX12_join {T : tT} {σ : mc_G} (hT : cMT T σ) (hO : tOk T) {x y : Int32} {j a : Nat} (hy : y = nI j) (hj : 100 ≤ j ∧ j < 100 + tc T) : ∀ (n t : Nat) (z : Int32), z = nI t → t < n → t < tc T → neA T t (j - 100) = neA T a (j - 100) → Wp miX12_join 49 [(0, .inr (some 167)), (1, .inl (x)), (2, .inl y), (3, .inl z)] [] σ (fun rv σ' => rv = some (.inl (nI (100 + neA T a (j - 100)))) ∧ σ' = σ) := by
  have h8 := hO.2.1
  intro n
  induction n with
  | zero => intro t z hz h; omega
  | succ n ih =>
    intro t z hz htn ht he
    iterate 5 refine Wp.go rfl ?_
    refine Wp.call rfl cqX12_comes (sX12_comes hT hO (nE_sub hy (rfl : _ = nI 100) (by omega)) (by omega) hz (by omega)) (fun rv1 s1 hq1 => ?_)
    obtain ⟨rfl, hq1⟩ := hq1
    replace hq1 := hq1.symm
    subst hq1
    refine Wp.go rfl ?_
    refine Wp.bneD (p := neA T (j - 100) t = t) rfl (fun (h1 : neA T (j - 100) t = t) => ?_) (fun (h1 : ¬ (neA T (j - 100) t = t)) => ?_)
    · iterate 3 refine Wp.go rfl ?_
      refine Wp.ret rfl ?_
      exact ⟨rvN (nE_add (rfl : _ = nI 100) hz) (by rw [ne_c] at h1; omega), rfl⟩
    · iterate 3 refine Wp.go rfl ?_
      refine Wp.go (if_pos ⟨rfl, rfl, (inE (n := 8) hz (by omega))⟩) ?_
      iterate 2 refine Wp.go rfl ?_
      have h0 : 0 < t := by
        rcases Nat.eq_zero_or_pos t with q | q
        · exact absurd (by rw [q, ne_c]; exact ne_0 hO (by omega)) h1
        · exact q
      have hup := ne_up hO ht (show j - 100 < tc T by omega) h0 (by rw [ne_c]; exact h1)
      refine Wp.lo (lo := [(0, .inr (some 167)), (1, .inl _), (2, .inl _), (3, .inl _)]) ⟨rfl, rfl, rfl, rfl, trivial⟩ ?_
      exact ih (tp T t) _ (rdE hz (by omega) ((hT.2 t (by omega)).1)) (by have := tp_lt hO ht h0; omega) (tp_tc hO ht) (by rw [hup]; exact he)
set_option maxRecDepth 100000 in
theorem sX12_join {T : tT} {σ : mc_G} (hT : cMT T σ) (hO : tOk T) {x y : Int32} {k j : Nat} (hx : x = nI k) (hk : k < 2 ^ 30) (hy : y = nI j) (hj : j < 2 ^ 30) (hk8 : t8K k = true → k < 100 + tc T) (hj8 : t8K j = true → j < 100 + tc T) : Wp miX12_join 0 [(0, .inr (some 167)), (1, .inl x), (2, .inl y)] [] σ (fun rv σ' => rv = some (.inl (nI (jnA T k j))) ∧ σ' = σ) := by
  have h8 := hO.2.1
  iterate 3 refine Wp.go rfl ?_
  refine Wp.neN (a := k) (b := j) hx hy (by first | omega | (simp [r8K, t8K] at *; omega)) (by first | omega | (simp [r8K, t8K] at *; omega)) (fun (h1 : ¬ k = j) => ?_) (fun (h1 : k = j) => ?_)
  · refine Wp.go rfl ?_
    refine Wp.call rfl cqX12_isThingOrNull (sX12_isThingOrNull hx (by first | omega | (simp [r8K, t8K] at *; omega))) (fun rv1 s1 hq1 => ?_)
    obtain ⟨rfl, hq1⟩ := hq1
    replace hq1 := hq1.symm
    subst hq1
    refine Wp.go rfl ?_
    refine Wp.beqE rfl (fun (h2 : (r8K k) = false) => ?_) (fun (h2 : (r8K k) = true) => ?_)
    · refine Wp.go rfl ?_
      refine Wp.ret rfl ?_
      exact ⟨rvN (rfl : _ = nI 0) (by unfold jnA; simp [r8K, t8K, rfK, thK] at *; first | omega | (simp_all; done) | (simp_all; omega)), rfl⟩
    · refine Wp.go rfl ?_
      refine Wp.call rfl cqX12_isThingOrNull (sX12_isThingOrNull hy (by first | omega | (simp [r8K, t8K] at *; omega))) (fun rv2 s2 hq2 => ?_)
      obtain ⟨rfl, hq2⟩ := hq2
      replace hq2 := hq2.symm
      subst hq2
      refine Wp.go rfl ?_
      refine Wp.bneE rfl (fun (h3 : (r8K j) = true) => ?_) (fun (h3 : (r8K j) = false) => ?_)
      · iterate 3 refine Wp.go rfl ?_
        refine Wp.eqN (a := k) (b := 4) hx (rfl : _ = nI 4) (by first | omega | (simp [r8K, t8K] at *; omega)) (by first | omega | (simp [r8K, t8K] at *; omega)) (fun (h4 : k = 4) => ?_) (fun (h4 : ¬ k = 4) => ?_)
        · iterate 3 refine Wp.go rfl ?_
          refine Wp.neN (a := k) (b := 4) hx (rfl : _ = nI 4) (by first | omega | (simp [r8K, t8K] at *; omega)) (by first | omega | (simp [r8K, t8K] at *; omega)) (fun (h5 : ¬ k = 4) => ?_) (fun (h5 : k = 4) => ?_)
          · refine Wp.go rfl ?_
            refine Wp.ret rfl ?_
            exact ⟨rvN hx (by unfold jnA; simp [r8K, t8K, rfK, thK] at *; first | omega | (simp_all; done) | (simp_all; omega)), rfl⟩
          · iterate 2 refine Wp.go rfl ?_
            refine Wp.ret rfl ?_
            exact ⟨rvN hy (by unfold jnA; simp [r8K, t8K, rfK, thK] at *; first | omega | (simp_all; done) | (simp_all; omega)), rfl⟩
        · iterate 3 refine Wp.go rfl ?_
          refine Wp.neN (a := j) (b := 4) hy (rfl : _ = nI 4) (by first | omega | (simp [r8K, t8K] at *; omega)) (by first | omega | (simp [r8K, t8K] at *; omega)) (fun (h6 : ¬ j = 4) => ?_) (fun (h6 : j = 4) => ?_)
          · iterate 4 refine Wp.go rfl ?_
            refine Wp.lo (lo := [(0, .inr (some 167)), (1, .inl _), (2, .inl _), (3, .inl _)]) ⟨rfl, rfl, rfl, rfl, trivial⟩ ?_
            have hkk : 100 ≤ k ∧ k < 100 + tc T := by simp [r8K, t8K] at *; omega
            have hjj : 100 ≤ j ∧ j < 100 + tc T := by simp [r8K, t8K] at *; omega
            have e1 : jnA T k j = 100 + neA T (k - 100) (j - 100) := by
              unfold jnA; rw [if_neg (by omega), if_pos (by simp [rfK, thK]; omega), if_neg (by omega), if_neg (by omega)]
            rw [e1]
            exact lX12_join hT hO hy hjj (k - 100 + 1) (k - 100) _ (nE_sub hx (rfl : _ = nI 100) (by first | omega | (simp [r8K, t8K] at *; omega))) (by omega) (by omega) rfl
          · iterate 3 refine Wp.go rfl ?_
            refine Wp.neN (a := k) (b := 4) hx (rfl : _ = nI 4) (by first | omega | (simp [r8K, t8K] at *; omega)) (by first | omega | (simp [r8K, t8K] at *; omega)) (fun (h7 : ¬ k = 4) => ?_) (fun (h7 : k = 4) => ?_)
            · refine Wp.go rfl ?_
              refine Wp.ret rfl ?_
              exact ⟨rvN hx (by unfold jnA; simp [r8K, t8K, rfK, thK] at *; first | omega | (simp_all; done) | (simp_all; omega)), rfl⟩
            · iterate 2 refine Wp.go rfl ?_
              refine Wp.ret rfl ?_
              exact ⟨rvN hy (by unfold jnA; simp [r8K, t8K, rfK, thK] at *; first | omega | (simp_all; done) | (simp_all; omega)), rfl⟩
      · refine Wp.go rfl ?_
        refine Wp.ret rfl ?_
        exact ⟨rvN (rfl : _ = nI 0) (by unfold jnA; simp [r8K, t8K, rfK, thK] at *; first | omega | (simp_all; done) | (simp_all; omega)), rfl⟩
  · refine Wp.go rfl ?_
    refine Wp.ret rfl ?_
    exact ⟨rvN hx (by unfold jnA; simp [r8K, t8K, rfK, thK] at *; first | omega | (simp_all; done) | (simp_all; omega)), rfl⟩
theorem isK_8 {T : tT} (hO : tOk T) {k : Nat} (h : isK T k = true) : k < 2 ^ 30 ∧ (t8K k = true → k < 100 + tc T) := by
  have := hO.2.1
  simp [isK, plK, rfK, thK, bgK, t8K] at *; omega
theorem vK_8 {P : pT} {T : tT} (hO : tOk T) {k : Nat} (h : vK P T k) : t8K k = true → k < 100 + tc T := by
  have := hO.2.1
  intro q
  simp [t8K] at q
  rcases h with h | h | h | h
  · simp [plK, rfK, thK] at h; omega
  · omega
  · omega
  · omega
/-- the lowest bit -/
def hiO (m : Nat) : Nat := if m.testBit 0 = true then 0 else if m.testBit 1 = true then 1 else if m.testBit 2 = true then 2 else if m.testBit 3 = true then 3 else if m.testBit 4 = true then 4 else if m.testBit 5 = true then 5 else 6
/-- what the reference keeps of what was made -/
def mMade (K : kS) (σ : mc_G) : Prop :=
  (∃ H : Nat → Nat, ∀ i, i < 30 → σ 177 i = nI (H i) ∧ H i < 128 ∧ decide (¬ H i = 0) = K.2.2.2.1.2.1 i ∧ (K.2.2.2.1.2.1 i = true → hiO (H i) = (K.2.2.2.1.1 i).1)) ∧
  (∀ i, i < 30 → σ 180 i = bI (K.2.2.2.1.2.1 i) ∧ (K.2.2.2.1.2.1 i = true → ∀ k, k < 8 + (K.2.2.2.1.1 i).1 → σ 179 (14 * i + k) = nI ((K.2.2.2.1.1 i).2 k))) ∧
  (σ 167 21 = nI K.2.2.2.2.1.2.2.2.2 ∧ ∀ k, k < K.2.2.2.2.1.2.2.2.2 → σ 182 k = nI (K.2.2.2.2.1.1 k) ∧ ∀ p, p < 8 + (K.2.2.2.2.1.2.2.2.1 k).1 → σ 183 (14 * K.2.2.2.2.1.1 k + p) = nI ((K.2.2.2.2.1.2.2.2.1 k).2 p)) ∧
  (σ 167 24 = nI K.2.2.2.2.2.1.1.1 ∧ ∀ j, j < K.2.2.2.2.2.1.1.1 → σ 184 j = nI (K.2.2.2.2.2.1.1.2 j))
theorem mMade.o {K : kS} {σ σ' : mc_G} {cs fs : List Nat} (h : mMade K σ) (o : mo cs fs σ σ') (h1 : ∀ x ∈ [177, 179, 180, 182, 183, 184], ¬ x ∈ cs := by decide) (h2 : ¬ 21 ∈ fs := by decide) (h3 : ¬ 24 ∈ fs := by decide) : mMade K σ' := by
  unfold mMade
  rw [o.2 21 h2, o.2 24 h3, o.1 177 (by decide) (h1 177 (by decide)), o.1 179 (by decide) (h1 179 (by decide)), o.1 180 (by decide) (h1 180 (by decide)), o.1 182 (by decide) (h1 182 (by decide)), o.1 183 (by decide) (h1 183 (by decide)), o.1 184 (by decide) (h1 184 (by decide))]
  exact h
def cMod (K : kS) (σ : mc_G) : Prop := cMT K.1 σ ∧ cMP K.2.1 σ ∧ cMB K.2.2.1 σ ∧ σ 167 13 = bI K.2.2.2.2.2.2.1 ∧ σ 167 14 = nI K.2.2.2.2.2.2.2 ∧ (K.2.2.2.2.2.2.1 = true → mMade K σ)
/-- the reference's own word of what was thrown -/
theorem cMod.c {K : kS} {σ : mc_G} (h : cMod K σ) (v : Int32) : cMod K (mc_up σ 167 0 v) := by
  have o : mo [] [0] σ (mc_up σ 167 0 v) := mo.f σ (by decide) v
  exact ⟨h.1.o o, h.2.1.o o, h.2.2.1.o o, by rw [o.2 13 (by decide)]; exact h.2.2.2.1, by rw [o.2 14 (by decide)]; exact h.2.2.2.2.1, fun q => (h.2.2.2.2.2 q).o o⟩
theorem cMod.o {K : kS} {σ σ' : mc_G} {cs fs : List Nat} (h : cMod K σ) (o : mo cs fs σ σ') (h1 : ∀ x ∈ [168, 169, 170, 171, 172, 173, 174, 175, 176, 177, 179, 180, 182, 183, 184], ¬ x ∈ cs := by decide) (h2 : ∀ x ∈ [1, 5, 8, 13, 14, 21, 24], ¬ x ∈ fs := by decide) : cMod K σ' :=
  ⟨h.1.o o (h1 _ (by decide)) (h1 _ (by decide)) (h2 _ (by decide)), h.2.1.o o (h2 _ (by decide)) (h2 _ (by decide)) (fun x hx => h1 x (by revert hx; revert x; decide)), h.2.2.1.o o (h1 _ (by decide)), by rw [o.2 13 (h2 _ (by decide))]; exact h.2.2.2.1, by rw [o.2 14 (h2 _ (by decide))]; exact h.2.2.2.2.1, fun q => (h.2.2.2.2.2 q).o o (fun x hx => h1 x (by revert hx; revert x; decide)) (h2 _ (by decide)) (h2 _ (by decide))⟩
theorem mo.r {cs fs : List Nat} {σ σ' : mc_G} (h : mo cs fs σ σ') (h1 : ∀ x ∈ cs, 167 ≤ x ∧ x ≤ 186) : ofR 167 186 σ σ' := fun b hb => h.1 b (by omega) (fun q => by have := h1 b q; omega)
set_option maxRecDepth 100000 in
theorem sX12_joined {K : kS} {σ : mc_G} (hM : cMod K σ) (hk : kOk K) {x y : Int32} {u v : Option Nat} (hu : oV x u) (hv : oV y v) : Wp miX12_joined 0 [(0, .inr (some 167)), (1, .inl x), (2, .inl y)] [] σ (fun rv σ' => rv = some (.inl (jnR K u v)) ∧ cMod K σ' ∧ ofR 167 186 σ σ') := by
  rcases u with _ | p
  · have hx : x < 0 := hu
    rcases v with _ | q
    · have hy : y < 0 := hv
      iterate 2 refine Wp.go rfl ?_
      refine Wp.go rfl ?_
      iterate 2 refine Wp.go rfl ?_
      refine Wp.call rfl cqX12_isKind (sX12_isKind_g (hM.c 0).1 hk.1 hx) (fun rv1 s1 hq1 => ?_)
      obtain ⟨rfl, hq1⟩ := hq1
      replace hq1 := hq1.symm
      subst hq1
      refine Wp.go rfl ?_
      refine Wp.beqE (b := false) rfl (fun _ => ?_) (fun q => by cases q)
      refine Wp.go rfl ?_
      refine Wp.ret rfl ?_
      exact ⟨rfl, hM.c 0, (mo.f σ (cs := []) (fs := [0]) (by decide) 0).r (by decide)⟩
    · obtain ⟨hy, hlq⟩ := hv
      iterate 2 refine Wp.go rfl ?_
      refine Wp.go rfl ?_
      iterate 2 refine Wp.go rfl ?_
      refine Wp.call rfl cqX12_isKind (sX12_isKind_g (hM.c 0).1 hk.1 hx) (fun rv1 s1 hq1 => ?_)
      obtain ⟨rfl, hq1⟩ := hq1
      replace hq1 := hq1.symm
      subst hq1
      refine Wp.go rfl ?_
      refine Wp.beqE (b := false) rfl (fun _ => ?_) (fun q => by cases q)
      refine Wp.go rfl ?_
      refine Wp.ret rfl ?_
      exact ⟨rfl, hM.c 0, (mo.f σ (cs := []) (fs := [0]) (by decide) 0).r (by decide)⟩
  · obtain ⟨hx, hlp⟩ := hu
    rcases v with _ | q
    · have hy : y < 0 := hv
      iterate 2 refine Wp.go rfl ?_
      refine Wp.go rfl ?_
      iterate 2 refine Wp.go rfl ?_
      refine Wp.call rfl cqX12_isKind (sX12_isKind (hM.c 0).1 hk.1 hx (by omega)) (fun rv1 s1 hq1 => ?_)
      obtain ⟨rfl, hq1⟩ := hq1
      replace hq1 := hq1.symm
      subst hq1
      refine Wp.go rfl ?_
      refine Wp.beqE rfl (fun (h1 : (isK K.1 p) = false) => ?_) (fun (h1 : (isK K.1 p) = true) => ?_)
      · refine Wp.go rfl ?_
        refine Wp.ret rfl ?_
        exact ⟨rfl, hM.c 0, (mo.f σ (cs := []) (fs := [0]) (by decide) 0).r (by decide)⟩
      · iterate 2 refine Wp.go rfl ?_
        refine Wp.call rfl cqX12_isKind (sX12_isKind_g (hM.c 0).1 hk.1 hy) (fun rv2 s2 hq2 => ?_)
        obtain ⟨rfl, hq2⟩ := hq2
        replace hq2 := hq2.symm
        subst hq2
        refine Wp.go rfl ?_
        refine Wp.beqE (b := false) rfl (fun _ => ?_) (fun q => by cases q)
        refine Wp.go rfl ?_
        refine Wp.ret rfl ?_
        exact ⟨rfl, hM.c 0, (mo.f σ (cs := []) (fs := [0]) (by decide) 0).r (by decide)⟩
    · obtain ⟨hy, hlq⟩ := hv
      iterate 2 refine Wp.go rfl ?_
      refine Wp.go rfl ?_
      iterate 2 refine Wp.go rfl ?_
      refine Wp.call rfl cqX12_isKind (sX12_isKind (hM.c 0).1 hk.1 hx (by omega)) (fun rv1 s1 hq1 => ?_)
      obtain ⟨rfl, hq1⟩ := hq1
      replace hq1 := hq1.symm
      subst hq1
      refine Wp.go rfl ?_
      refine Wp.beqE rfl (fun (h1 : (isK K.1 p) = false) => ?_) (fun (h1 : (isK K.1 p) = true) => ?_)
      · refine Wp.go rfl ?_
        refine Wp.ret rfl ?_
        refine ⟨?_, hM.c 0, (mo.f σ (cs := []) (fs := [0]) (by decide) 0).r (by decide)⟩
        unfold jnR; simp [*]
      · iterate 2 refine Wp.go rfl ?_
        refine Wp.call rfl cqX12_isKind (sX12_isKind (hM.c 0).1 hk.1 hy (by omega)) (fun rv2 s2 hq2 => ?_)
        obtain ⟨rfl, hq2⟩ := hq2
        replace hq2 := hq2.symm
        subst hq2
        refine Wp.go rfl ?_
        refine Wp.beqE rfl (fun (h2 : (isK K.1 q) = false) => ?_) (fun (h2 : (isK K.1 q) = true) => ?_)
        · refine Wp.go rfl ?_
          refine Wp.ret rfl ?_
          refine ⟨?_, hM.c 0, (mo.f σ (cs := []) (fs := [0]) (by decide) 0).r (by decide)⟩
          unfold jnR; simp [*]
        · iterate 3 refine Wp.go rfl ?_
          refine Wp.call rfl cqX12_join (sX12_join (hM.c 0).1 hk.1 hx (isK_8 hk.1 h1).1 hy (isK_8 hk.1 h2).1 (isK_8 hk.1 h1).2 (isK_8 hk.1 h2).2) (fun rv3 s3 hq3 => ?_)
          obtain ⟨rfl, hq3⟩ := hq3
          replace hq3 := hq3.symm
          subst hq3
          refine Wp.go rfl ?_
          refine Wp.ret rfl ?_
          refine ⟨?_, hM.c 0, (mo.f σ (cs := []) (fs := [0]) (by decide) 0).r (by decide)⟩
          unfold jnR; simp [*]
set_option maxRecDepth 100000 in
theorem sX12_goes {K : kS} {σ : mc_G} (hM : cMod K σ) (hk : kOk K) {x y : Int32} {u v : Option Nat} (hu : oV x u) (hv : oV y v) : Wp miX12_goes 0 [(0, .inr (some 167)), (1, .inl x), (2, .inl y)] [] σ (fun rv σ' => rv = some (.inl (goR K u v)) ∧ cMod K σ' ∧ ofR 167 186 σ σ') := by
  rcases u with _ | p
  · have hx : x < 0 := hu
    rcases v with _ | q
    · have hy : y < 0 := hv
      iterate 2 refine Wp.go rfl ?_
      refine Wp.go rfl ?_
      iterate 2 refine Wp.go rfl ?_
      refine Wp.call rfl cqX12_isKind (sX12_isKind_g (hM.c 0).1 hk.1 hx) (fun rv1 s1 hq1 => ?_)
      obtain ⟨rfl, hq1⟩ := hq1
      replace hq1 := hq1.symm
      subst hq1
      refine Wp.go rfl ?_
      refine Wp.beqE (b := false) rfl (fun _ => ?_) (fun q => by cases q)
      iterate 2 refine Wp.go rfl ?_
      refine Wp.ret rfl ?_
      exact ⟨rfl, hM.c 0, (mo.f σ (cs := []) (fs := [0]) (by decide) 0).r (by decide)⟩
    · obtain ⟨hy, hlq⟩ := hv
      iterate 2 refine Wp.go rfl ?_
      refine Wp.go rfl ?_
      iterate 2 refine Wp.go rfl ?_
      refine Wp.call rfl cqX12_isKind (sX12_isKind_g (hM.c 0).1 hk.1 hx) (fun rv1 s1 hq1 => ?_)
      obtain ⟨rfl, hq1⟩ := hq1
      replace hq1 := hq1.symm
      subst hq1
      refine Wp.go rfl ?_
      refine Wp.beqE (b := false) rfl (fun _ => ?_) (fun q => by cases q)
      iterate 2 refine Wp.go rfl ?_
      refine Wp.ret rfl ?_
      exact ⟨rfl, hM.c 0, (mo.f σ (cs := []) (fs := [0]) (by decide) 0).r (by decide)⟩
  · obtain ⟨hx, hlp⟩ := hu
    rcases v with _ | q
    · have hy : y < 0 := hv
      iterate 2 refine Wp.go rfl ?_
      refine Wp.go rfl ?_
      iterate 2 refine Wp.go rfl ?_
      refine Wp.call rfl cqX12_isKind (sX12_isKind (hM.c 0).1 hk.1 hx (by omega)) (fun rv1 s1 hq1 => ?_)
      obtain ⟨rfl, hq1⟩ := hq1
      replace hq1 := hq1.symm
      subst hq1
      refine Wp.go rfl ?_
      refine Wp.beqE rfl (fun (h1 : (isK K.1 p) = false) => ?_) (fun (h1 : (isK K.1 p) = true) => ?_)
      · iterate 2 refine Wp.go rfl ?_
        refine Wp.ret rfl ?_
        exact ⟨rfl, hM.c 0, (mo.f σ (cs := []) (fs := [0]) (by decide) 0).r (by decide)⟩
      · iterate 2 refine Wp.go rfl ?_
        refine Wp.call rfl cqX12_isKind (sX12_isKind_g (hM.c 0).1 hk.1 hy) (fun rv2 s2 hq2 => ?_)
        obtain ⟨rfl, hq2⟩ := hq2
        replace hq2 := hq2.symm
        subst hq2
        refine Wp.go rfl ?_
        refine Wp.bneE (b := false) rfl (fun q => by cases q) (fun _ => ?_)
        iterate 2 refine Wp.go rfl ?_
        refine Wp.ret rfl ?_
        exact ⟨rfl, hM.c 0, (mo.f σ (cs := []) (fs := [0]) (by decide) 0).r (by decide)⟩
    · obtain ⟨hy, hlq⟩ := hv
      iterate 2 refine Wp.go rfl ?_
      refine Wp.go rfl ?_
      iterate 2 refine Wp.go rfl ?_
      refine Wp.call rfl cqX12_isKind (sX12_isKind (hM.c 0).1 hk.1 hx (by omega)) (fun rv1 s1 hq1 => ?_)
      obtain ⟨rfl, hq1⟩ := hq1
      replace hq1 := hq1.symm
      subst hq1
      refine Wp.go rfl ?_
      refine Wp.beqE rfl (fun (h1 : (isK K.1 p) = false) => ?_) (fun (h1 : (isK K.1 p) = true) => ?_)
      · iterate 2 refine Wp.go rfl ?_
        refine Wp.ret rfl ?_
        refine ⟨?_, hM.c 0, (mo.f σ (cs := []) (fs := [0]) (by decide) 0).r (by decide)⟩
        simp [goR, bI, *]
      · iterate 2 refine Wp.go rfl ?_
        refine Wp.call rfl cqX12_isKind (sX12_isKind (hM.c 0).1 hk.1 hy (by omega)) (fun rv2 s2 hq2 => ?_)
        obtain ⟨rfl, hq2⟩ := hq2
        replace hq2 := hq2.symm
        subst hq2
        refine Wp.go rfl ?_
        refine Wp.bneE rfl (fun (h2 : (isK K.1 q) = true) => ?_) (fun (h2 : (isK K.1 q) = false) => ?_)
        · iterate 3 refine Wp.go rfl ?_
          refine Wp.call rfl cqX12_goesFor (sX12_goesFor (hM.c 0).1 hk.1 hx (isK_8 hk.1 h1).1 hy (isK_8 hk.1 h2).1 (isK_8 hk.1 h1).2 (isK_8 hk.1 h2).2) (fun rv3 s3 hq3 => ?_)
          obtain ⟨rfl, hq3⟩ := hq3
          replace hq3 := hq3.symm
          subst hq3
          refine Wp.go rfl ?_
          refine Wp.beqE rfl (fun (h3 : (gfA K.1 p q) = false) => ?_) (fun (h3 : (gfA K.1 p q) = true) => ?_)
          · refine Wp.go rfl ?_
            refine Wp.ret rfl ?_
            refine ⟨?_, hM.c 0, (mo.f σ (cs := []) (fs := [0]) (by decide) 0).r (by decide)⟩
            simp [goR, bI, *]
          · iterate 2 refine Wp.go rfl ?_
            refine Wp.ret rfl ?_
            refine ⟨?_, hM.c 0, (mo.f σ (cs := []) (fs := [0]) (by decide) 0).r (by decide)⟩
            simp [goR, bI, *]
        · iterate 2 refine Wp.go rfl ?_
          refine Wp.ret rfl ?_
          refine ⟨?_, hM.c 0, (mo.f σ (cs := []) (fs := [0]) (by decide) 0).r (by decide)⟩
          simp [goR, bI, *]

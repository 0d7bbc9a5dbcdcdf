theorem cSiz.f {Z : zS} {σ : mc_G} {v : Int32} (h : cSiz Z σ) : cSiz Z (mc_up σ 13 4 v) ∧ offS σ (mc_up σ 13 4 v) := by
  refine ⟨⟨fun i hi => ?_, ?_⟩, fun b h1 h2 h3 => mc_upn _ _ _ h1⟩
  · rw [mc_upn _ _ _ (show (14 : Nat) ≠ 13 by decide), mc_upn _ _ _ (show (15 : Nat) ≠ 13 by decide)]
    exact h.1 i hi
  · rw [mc_upa]; simpa using h.2
set_option maxRecDepth 100000 in
theorem lX6_lff {P : pT} (hO1 : pn P ≤ 30 ∧ qn P ≤ 4) (hp20 : ∀ k, k < pn P → po P k ≤ 20) (hB : ∀ j, j < qn P → qf P j < qt P j ∧ qt P j ≤ 30 ∧ qa P j < 30 ∧ qk P j < 8) (hJ : ∀ k, k < 30 → juA P k = true → nuA P k = nI (nuN P k) ∧ nuN P k < 30) {Z : zS} {σ0 : mc_G} : ∀ (n i : Nat) (x2 : Int32), x2 = nI i → i + n = 30 → ∀ (f p : Nat), f ≤ 3 → ∀ (x1 : Int32), x1 = nI p → p < 30 → ∀ (σ : mc_G), cSiz Z σ → cCode P σ → cSta σ → offS σ0 σ → σ 13 4 = nI f → Wp miX6_lookForFault 23 [(0, .inr (some 13)), (1, .inl x1), (2, .inl x2)] [] σ (fun rv σ' => rv = some (.inl (nI (lfA P Z n i (f, p)).2)) ∧ σ' 13 4 = nI (lfA P Z n i (f, p)).1 ∧ cSiz Z σ' ∧ offS σ0 σ') := by
  intro n
  induction n with
  | zero =>
    intro i x2 hz2 hin f p hf3 x1 hz1 hp σ hZ hP hS ho hf
    iterate 3 refine Wp.go rfl ?_
    refine Wp.geN (a := i) (b := 30) hz2 (rfl : _ = nI 30) (by omega) (by omega) (fun (h1 : ¬ i < 30) => ?_) (fun (h1 : i < 30) => ?_)
    · refine Wp.go rfl ?_
      refine Wp.ret rfl ?_
      exact ⟨rvN hz1 rfl, hf, hZ, ho⟩
    · exfalso; omega
  | succ n ih =>
    intro i x2 hz2 hin f p hf3 x1 hz1 hp σ hZ hP hS ho hf
    iterate 3 refine Wp.go rfl ?_
    refine Wp.geN (a := i) (b := 30) hz2 (rfl : _ = nI 30) (by omega) (by omega) (fun (h1 : ¬ i < 30) => ?_) (fun (h1 : i < 30) => ?_)
    · refine Wp.go rfl ?_
      refine Wp.ret rfl ?_
      first | (exfalso; omega) | (have e1 : lfA P Z (n + 1) i (f, p) = (f, p) := (by show (if f = 0 then lfA P Z n (i + 1) (faA P Z i, i) else (f, p)) = _; rw [if_neg h2]); rw [e1]; exact ⟨rvN hz1 rfl, hf, hZ, ho⟩)
    · iterate 3 refine Wp.go rfl ?_
      refine Wp.neN (a := f) (b := 0) hf (rfl : _ = nI 0) (by omega) (by omega) (fun (h2 : ¬ f = 0) => ?_) (fun (h2 : f = 0) => ?_)
      · refine Wp.go rfl ?_
        refine Wp.ret rfl ?_
        first | (exfalso; omega) | (have e1 : lfA P Z (n + 1) i (f, p) = (f, p) := (by show (if f = 0 then lfA P Z n (i + 1) (faA P Z i, i) else (f, p)) = _; rw [if_neg h2]); rw [e1]; exact ⟨rvN hz1 rfl, hf, hZ, ho⟩)
      · iterate 3 refine Wp.go rfl ?_
        refine Wp.call rfl cqX6_faultAt (sX6_faultAt (σ := σ) hO1 hp20 hB hJ hP hS hZ hz2 (by omega)) (fun rv1 s1 hq1 => ?_)
        obtain ⟨rfl, hq1⟩ := hq1
        replace hq1 := hq1.symm
        subst hq1
        refine Wp.go rfl ?_
        iterate 4 refine Wp.go rfl ?_
        have hz := hZ.f (v := nI (faA P Z i))
        have e1 : lfA P Z (n + 1) i (f, p) = lfA P Z n (i + 1) (faA P Z i, i) := by show (if f = 0 then lfA P Z n (i + 1) (faA P Z i, i) else (f, p)) = _; rw [if_pos h2]
        rw [e1]
        refine Wp.lo (lo := [(0, .inr (some 13)), (1, .inl _), (2, .inl _)]) ⟨rfl, rfl, rfl, trivial⟩ ?_
        exact ih (i + 1) _ (nE_add hz2 (rfl : _ = nI 1)) (by omega) _ _ (faA_le P Z i) _ hz2 (by omega) _ hz.1 (hP.to (fun b hb1 hb2 => hz.2 b (by omega) (by omega) (by omega))) (cSta.to hS hz.2) (ho.tr hz.2) (by rw [mc_upa]; simp)
set_option maxRecDepth 100000 in
theorem sX6_lookForFault {P : pT} (hO1 : pn P ≤ 30 ∧ qn P ≤ 4) (hp20 : ∀ k, k < pn P → po P k ≤ 20) (hB : ∀ j, j < qn P → qf P j < qt P j ∧ qt P j ≤ 30 ∧ qa P j < 30 ∧ qk P j < 8) (hJ : ∀ k, k < 30 → juA P k = true → nuA P k = nI (nuN P k) ∧ nuN P k < 30) {Z : zS} {σ : mc_G} (hP : cCode P σ) (hS : cSta σ) (hZ : cSiz Z σ) : Wp miX6_lookForFault 0 [(0, .inr (some 13))] [] σ (fun rv σ' => rv = some (.inl (nI (lfA P Z 30 0 (if pn P = 0 then 1 else 0, 0)).2)) ∧ σ' 13 4 = nI (lfA P Z 30 0 (if pn P = 0 then 1 else 0, 0)).1 ∧ cSiz Z σ' ∧ offS σ σ') := by
  iterate 3 refine Wp.go rfl ?_
  refine Wp.call rfl cqX1_size (sX1_size (σ := σ) hP hO1) (fun rv1 s1 hq1 => ?_)
  obtain ⟨rfl, hq1⟩ := hq1
  replace hq1 := hq1.symm
  subst hq1
  refine Wp.go rfl ?_
  refine Wp.neN (a := pn P) (b := 0) rfl (rfl : _ = nI 0) (by omega) (by omega) (fun (h1 : ¬ pn P = 0) => ?_) (fun (h1 : pn P = 0) => ?_)
  · refine Wp.go rfl ?_
    refine Wp.go rfl ?_
    iterate 4 refine Wp.go rfl ?_
    have hz := hZ.f (v := nI 0)
    refine Wp.lo (lo := [(0, .inr (some 13)), (1, .inl _), (2, .inl _)]) ⟨rfl, rfl, rfl, trivial⟩ ?_
    have e1 : (if pn P = 0 then 1 else 0) = 0 := by simp [h1]
    rw [e1]
    exact lX6_lff hO1 hp20 hB hJ 30 0 _ (rfl : _ = nI 0) rfl 0 0 (by omega) _ (rfl : _ = nI 0) (by omega) _ hz.1 (hP.to (fun b hb1 hb2 => hz.2 b (by omega) (by omega) (by omega))) (cSta.to hS hz.2) hz.2 (by rw [mc_upa]; simp; try rfl)
  · iterate 2 refine Wp.go rfl ?_
    refine Wp.go rfl ?_
    iterate 4 refine Wp.go rfl ?_
    have hz := hZ.f (v := nI 1)
    refine Wp.lo (lo := [(0, .inr (some 13)), (1, .inl _), (2, .inl _)]) ⟨rfl, rfl, rfl, trivial⟩ ?_
    have e1 : (if pn P = 0 then 1 else 0) = 1 := by simp [h1]
    rw [e1]
    exact lX6_lff hO1 hp20 hB hJ 30 0 _ (rfl : _ = nI 0) rfl 1 0 (by omega) _ (rfl : _ = nI 0) (by omega) _ hz.1 (hP.to (fun b hb1 hb2 => hz.2 b (by omega) (by omega) (by omega))) (cSta.to hS hz.2) hz.2 (by rw [mc_upa]; simp; try rfl)
set_option maxRecDepth 100000 in
theorem Wp.aa {cd : List mc_I} {pc : Nat} {lo : List (Nat × mc_V)} {st : List mc_V} {σ : mc_G} {Φ : Option mc_V → mc_G → Prop} {b r : Nat} {i : Int32} {k : Nat} (hi : i = nI k) (hk : k < 30) (hb : b < 187) (hty : mc_ty b = (2, 30)) (hr : rh0 b k = some r) (hf : mc_find cd pc = some (.aaload, 1, [])) (kk : Wp cd (pc + 1) lo (.inr (some r) :: st) σ Φ) : Wp cd pc lo (.inl i :: .inr (some b) :: st) σ Φ := by
  refine Wp.go ?_ kk
  unfold mc_stp
  rw [hf]
  show (if mc_rd 187 b = true ∧ (mc_ty b).1 = 2 ∧ mc_inb i (mc_ty b).2 = true then mc_go (pc + 1) lo (.inr (rh0 b i.toNatClampNeg) :: st) (187, rh0, σ) else none) = _
  rw [if_pos ⟨mc_rd_lt hb, by rw [hty], by rw [hty]; exact inE hi hk⟩, clE hi (by omega), hr]
  rfl
theorem rh_19 {k : Nat} (hk : k < 30) : rh0 19 k = some (22 + 2 * k) := by unfold rh0; rw [if_pos rfl, if_pos hk]
theorem rh_91 {k : Nat} (hk : k < 30) : rh0 91 k = some (94 + 2 * k) := by unfold rh0; rw [if_neg (by decide), if_pos rfl, if_pos hk]
theorem sX8_row18 {σ : mc_G} {x : Int32} {k : Nat} (hx : x = nI k) (hk : k < 30) : Wp miX8_row 0 [(0, .inr (some 18)), (1, .inl x)] [] σ (fun rv σ' => rv = some (.inr (some (22 + 2 * k))) ∧ σ' = σ) := by
  iterate 2 refine Wp.go rfl ?_
  refine Wp.ltN (a := k) (b := 0) hx (rfl : _ = nI 0) (by omega) (by omega) (fun h => by exfalso; omega) (fun h1 => ?_)
  iterate 3 refine Wp.go rfl ?_
  refine Wp.geN (a := k) (b := 30) hx (rfl : _ = nI 30) (by omega) (by omega) (fun h => absurd hk h) (fun h2 => ?_)
  iterate 3 refine Wp.go rfl ?_
  refine Wp.aa hx hk (by decide) rfl (rh_19 hk) rfl ?_
  refine Wp.go rfl ?_
  refine Wp.ret rfl ?_
  exact ⟨rfl, rfl⟩
theorem sX8_row90 {σ : mc_G} {x : Int32} {k : Nat} (hx : x = nI k) (hk : k < 30) : Wp miX8_row 0 [(0, .inr (some 90)), (1, .inl x)] [] σ (fun rv σ' => rv = some (.inr (some (94 + 2 * k))) ∧ σ' = σ) := by
  iterate 2 refine Wp.go rfl ?_
  refine Wp.ltN (a := k) (b := 0) hx (rfl : _ = nI 0) (by omega) (by omega) (fun h => by exfalso; omega) (fun h1 => ?_)
  iterate 3 refine Wp.go rfl ?_
  refine Wp.geN (a := k) (b := 30) hx (rfl : _ = nI 30) (by omega) (by omega) (fun h => absurd hk h) (fun h2 => ?_)
  iterate 3 refine Wp.go rfl ?_
  refine Wp.aa hx hk (by decide) rfl (rh_91 hk) rfl ?_
  refine Wp.go rfl ?_
  refine Wp.ret rfl ?_
  exact ⟨rfl, rfl⟩
theorem sX7_row {σ : mc_G} {x : Int32} {k : Nat} (hx : x = nI k) (hk : k < 30) : Wp miX7_row 0 [(0, .inr (some 17)), (1, .inl x)] [] σ (fun rv σ' => rv = some (.inr (some (22 + 2 * k))) ∧ σ' = σ) := by
  iterate 3 refine Wp.go rfl ?_
  refine Wp.call rfl cqX8_row (sX8_row18 hx hk) (fun rv1 s1 hq1 => ?_)
  obtain ⟨rfl, hq1⟩ := hq1
  refine Wp.ret rfl ?_
  exact ⟨rfl, hq1⟩
theorem sX3_given {σ : mc_G} {x : Int32} {k : Nat} (hx : x = nI k) (hk : k < 30) : Wp miX3_given 0 [(0, .inr (some 86)), (1, .inl x)] [] σ (fun rv σ' => rv = some (.inr (some (94 + 2 * k))) ∧ σ' = σ) := by
  iterate 3 refine Wp.go rfl ?_
  refine Wp.call rfl cqX8_row (sX8_row90 hx hk) (fun rv1 s1 hq1 => ?_)
  obtain ⟨rfl, hq1⟩ := hq1
  refine Wp.ret rfl ?_
  exact ⟨rfl, hq1⟩

theorem cMP.op {P : pT} {σ : mc_G} (h : cMP P σ) {k : Nat} (hk : k < pn P) : σ 171 k = nI (opA P k) := by unfold opA; rw [if_pos hk]; exact (h.2.2.1 k hk).1
theorem cMP.nu {P : pT} {σ : mc_G} (h : cMP P σ) {k : Nat} (hk : k < pn P) : σ 172 k = nuA P k := by unfold nuA; rw [if_pos hk]; exact (h.2.2.1 k hk).2
theorem mHd.ps {c : cS} {q : Nat} {σ : mc_G} {x v : Int32} (h : mHd c σ) (h6 : c.1 < 6) (hx : x = nI (8 + c.1)) (hv : v = nI q) (hq : q < 300) : mHd (psA c q) (mc_up (mc_up σ 181 x.toNatClampNeg v) 167 20 (σ 167 20 + 1)) := by
  unfold psA
  rw [if_pos h6]
  refine ⟨?_, by show c.1 + 1 ≤ 6; omega, fun j hj => ?_⟩
  · rw [upj, if_pos rfl]; exact nE_add h.1 (rfl : _ = nI 1)
  · have hj' : j < 8 + (c.1 + 1) := hj
    rw [mc_upn _ _ _ (by decide), clE hx (by omega), upj]
    show (if j = 8 + c.1 then v else σ 181 j) = nI (va_up c.2 (8 + c.1) q j) ∧ va_up c.2 (8 + c.1) q j < 300
    unfold va_up
    by_cases e : j = 8 + c.1
    · rw [if_pos e, if_pos e]; exact ⟨hv, hq⟩
    · rw [if_neg e, if_neg e]; exact h.2.2 j (by omega)
set_option maxRecDepth 100000 in
theorem sX12_push {c : cS} {σ : mc_G} (hC : mHd c σ) {x : Int32} {q : Nat} (h6 : c.1 < 6) (hx : x = nI q) (hq : q < 300) : Wp miX12_push 0 [(0, .inr (some 167)), (1, .inl x)] [] σ (fun rv σ' => rv = none ∧ mHd (psA c q) σ' ∧ mo [181] [20] σ σ') := by
  iterate 7 refine Wp.go rfl ?_
  refine Wp.go (if_pos ⟨(show 181 < 187 by decide), rfl, inE (n := 14) (nE_add (rfl : _ = nI 8) hC.1) (by omega)⟩) ?_
  iterate 6 refine Wp.go rfl ?_
  refine Wp.ret rfl ?_
  exact ⟨rfl, hC.ps h6 (nE_add (rfl : _ = nI 8) hC.1) hx hq, (mo.a _ (by decide) (by decide) _ _).tr (mo.f _ (by decide) _)⟩
set_option maxRecDepth 100000 in
theorem sX12_pushLong {c : cS} {σ : mc_G} (hC : mHd c σ) (h4 : c.1 ≤ 4) : Wp miX12_pushLong 0 [(0, .inr (some 167))] [] σ (fun rv σ' => rv = none ∧ mHd (psA (psA c 2) 3) σ' ∧ mo [181] [20] σ σ') := by
  iterate 2 refine Wp.go rfl ?_
  refine Wp.call rfl cqX12_push (sX12_push hC (q := 2) (by omega) rfl (by decide)) (fun rv1 s1 hq1 => ?_)
  obtain ⟨rfl, hC1, ho1⟩ := hq1
  iterate 2 refine Wp.go rfl ?_
  refine Wp.call rfl cqX12_push (sX12_push hC1 (q := 3) (by rw [psA_1 (by omega)]; omega) rfl (by decide)) (fun rv2 s2 hq2 => ?_)
  obtain ⟨rfl, hC2, ho2⟩ := hq2
  refine Wp.ret rfl ?_
  exact ⟨rfl, hC2, ho1.tr ho2⟩
set_option maxRecDepth 100000 in
theorem lX12_becomes {c : cS} {q r : Nat} (h6 : c.1 ≤ 6) (hb : ∀ j, j < 8 + c.1 → c.2 j < 300) {x y : Int32} (hx : x = nI q) (hq : q < 300) (hy : y = nI r) (hr : r < 300) : ∀ (n i : Nat) (z : Int32) (σ : mc_G), z = nI i → i ≤ 8 + c.1 → 8 + c.1 - i < n → σ 167 20 = nI c.1 → arP 181 (8 + c.1) (pmA (fun j => if c.2 j = q then r else c.2 j) c.2 i) σ → Wp miX12_becomes 2 [(0, .inr (some 167)), (1, .inl x), (2, .inl y), (3, .inl z)] [] σ (fun rv σ' => rv = none ∧ mHd (rpA c q r) σ' ∧ mo [181] [] σ σ') := by
  intro n
  induction n with
  | zero => intro i z σ hz hi h; omega
  | succ n ih =>
    intro i z σ hz hi hn hH hA
    have hA0 : ∀ k, i ≤ k ∧ k < 8 + c.1 → σ 181 k = nI (c.2 k) ∧ c.2 k < 300 := fun k hk => by
      have := hA k hk.2
      unfold pmA at this
      rwa [if_neg (by omega)] at this
    have hbi := hb i
    iterate 6 refine Wp.go rfl ?_
    refine Wp.geN (a := i) (b := 8 + c.1) hz (nE_add (rfl : _ = nI 8) (hH)) (by omega) (by omega) (fun (h1 : ¬ i < 8 + c.1) => ?_) (fun (h1 : i < 8 + c.1) => ?_)
    · refine Wp.ret rfl ?_
      refine ⟨rfl, ⟨hH, h6, hA.cg (fun j hj => ?_)⟩, mo.rf⟩
      have hj2 : j < 8 + c.1 := hj
      show (if c.2 j = q then r else c.2 j) = pmA _ _ i j
      exact (if_pos (show j < i by omega)).symm
    · iterate 6 refine Wp.go rfl ?_
      refine Wp.go (if_pos ⟨rfl, rfl, (inE (n := 14) hz (by omega))⟩) ?_
      iterate 2 refine Wp.go rfl ?_
      refine Wp.neN (a := c.2 i) (b := q) (rdE hz (by omega) (hA0 i (by omega)).1) hx (by omega) (by omega) (fun (h2 : ¬ c.2 i = q) => ?_) (fun (h2 : c.2 i = q) => ?_)
      · iterate 3 refine Wp.go rfl ?_
        refine Wp.go (if_pos ⟨rfl, rfl, (inE (n := 14) hz (by omega))⟩) ?_
        refine Wp.go (if_pos ⟨(show 181 < 187 by decide), rfl, (inE (n := 14) hz (by omega))⟩) ?_
        iterate 2 refine Wp.go rfl ?_
        refine Wp.lo (lo := [(0, .inr (some 167)), (1, .inl _), (2, .inl _), (3, .inl _)]) ⟨rfl, rfl, rfl, rfl, trivial⟩ ?_
        refine (ih (i + 1) _ _ (nE_add hz (rfl : _ = nI 1)) (by omega) (by omega) (by rw [mc_upn _ _ _ (by decide)]; exact hH) ((hA.u hz (by omega) (rdE hz (by omega) (hA0 i (by omega)).1) (by omega)).cg (fun j hj => ?_))).mono (fun rv σ2 k => ⟨k.1, k.2.1, (mo.a _ (by decide) (by decide) _ _).tr k.2.2⟩)
        simp only [va_up, pmA]
        grind
      · iterate 2 refine Wp.go rfl ?_
        refine Wp.go (if_pos ⟨(show 181 < 187 by decide), rfl, (inE (n := 14) hz (by omega))⟩) ?_
        iterate 2 refine Wp.go rfl ?_
        refine Wp.lo (lo := [(0, .inr (some 167)), (1, .inl _), (2, .inl _), (3, .inl _)]) ⟨rfl, rfl, rfl, rfl, trivial⟩ ?_
        refine (ih (i + 1) _ _ (nE_add hz (rfl : _ = nI 1)) (by omega) (by omega) (by rw [mc_upn _ _ _ (by decide)]; exact hH) ((hA.u hz (by omega) hy (by omega)).cg (fun j hj => ?_))).mono (fun rv σ2 k => ⟨k.1, k.2.1, (mo.a _ (by decide) (by decide) _ _).tr k.2.2⟩)
        simp only [va_up, pmA]
        grind
set_option maxRecDepth 100000 in
theorem sX12_becomes {c : cS} {σ : mc_G} (hC : mHd c σ) {x y : Int32} {q r : Nat} (hx : x = nI q) (hq : q < 300) (hy : y = nI r) (hr : r < 300) : Wp miX12_becomes 0 [(0, .inr (some 167)), (1, .inl x), (2, .inl y)] [] σ (fun rv σ' => rv = none ∧ mHd (rpA c q r) σ' ∧ mo [181] [] σ σ') := by
  iterate 2 refine Wp.go rfl ?_
  refine Wp.lo (lo := [(0, .inr (some 167)), (1, .inl _), (2, .inl _), (3, .inl _)]) ⟨rfl, rfl, rfl, rfl, trivial⟩ ?_
  exact lX12_becomes hC.2.1 (fun j hj => (hC.2.2 j hj).2) hx hq hy hr (8 + c.1 + 1) 0 _ σ (rfl : _ = nI 0) (by omega) (by omega) hC.1 (hC.2.2.cg (fun j hj => by unfold pmA; rw [if_neg (by omega)]))
theorem op_lt {P : pT} {k o : Nat} (h : opA P k = o) (h19 : o ≠ 19 := by decide) : k < pn P := by
  unfold opA at h
  by_cases e : k < pn P
  · exact e
  · rw [if_neg e] at h; omega
theorem r8e {P : pT} {T : tT} (hO : tOk T) {k : Nat} (h : vK P T k) : r8K k = rfK T k := by
  have a := vK_8 hO h
  have b := hO.2.1
  unfold r8K rfK thK t8K at *
  by_cases e : k = 4
  · simp [e]
  · simp [e] at *; grind
theorem su15e {T : tT} (hO : tOk T) (x : Nat) {q : Nat} (hq : q < tc T) : gfA T x (100 + q) = (rfK T x && gfA T x (100 + q)) := by
  by_cases e : x = 100 + q
  · subst e
    have : rfK T (100 + q) = true := by simp [rfK, thK, hq]
    rw [this, Bool.true_and]
  · unfold gfA
    rw [decide_eq_false e, decide_eq_false (show ¬ 100 + q = 0 by omega)]
    cases rfK T x <;> simp
set_option maxRecDepth 100000 in
theorem sX12_wanted_0 {P : pT} {T : tT} {c : cS} {σ : mc_G} (hC : mHd c σ) (hP : cMP P σ) (hN : pNum P) (hY : pTy P T) (hO : tOk T) {x : Int32} {i : Nat} (hx : x = nI i) (hi : i < pn P) (hn : pn P ≤ 30) (hg : gC P T c) (hT : cMT T σ) (ho : opA P i = 0) (htk : tkA 0 ≤ c.1) : Wp miX12_isWanted 0 [(0, .inr (some 167)), (1, .inl x)] [] σ (fun rv σ' => rv = some (.inl (bI (suA T (opA P i) (nuN P i) c))) ∧ σ' = σ) := by
  have h6 := hC.2.1
  have hnu := fun q => hN.1 i q
  have hn7 := fun q => hN.2.1 i q
  have hty := fun q => hY.1 i q
  rw [ho] at hnu hn7 hty ⊢
  have htk : 0 ≤ c.1 := htk
  have m0 := mtp_lt hC 0
  have m1 := mtp_lt hC 1
  iterate 3 refine Wp.go rfl ?_
  refine Wp.go (if_pos ⟨rfl, rfl, (inE (n := 30) hx (by first | omega | (have := (hnu (by omega)).2; omega) | (have := hn7 (by omega); omega)))⟩) ?_
  iterate 4 refine Wp.go rfl ?_
  refine Wp.go (if_pos ⟨rfl, rfl, (inE (n := 30) hx (by first | omega | (have := (hnu (by omega)).2; omega) | (have := hn7 (by omega); omega)))⟩) ?_
  refine Wp.go rfl ?_
  refine Wp.swO (rdE hx (by first | omega | (have := (hnu (by omega)).2; omega) | (have := hn7 (by omega); omega)) (((hP).op (by omega)).trans (congrArg nI ho))) (by decide) (by decide) ?_
  refine Wp.go rfl ?_
  refine Wp.ret rfl ?_
  exact ⟨rv1 (by rw [su0]), rfl⟩
set_option maxRecDepth 100000 in
theorem sX12_wanted_1 {P : pT} {T : tT} {c : cS} {σ : mc_G} (hC : mHd c σ) (hP : cMP P σ) (hN : pNum P) (hY : pTy P T) (hO : tOk T) {x : Int32} {i : Nat} (hx : x = nI i) (hi : i < pn P) (hn : pn P ≤ 30) (hg : gC P T c) (hT : cMT T σ) (ho : opA P i = 1) (htk : tkA 1 ≤ c.1) : Wp miX12_isWanted 0 [(0, .inr (some 167)), (1, .inl x)] [] σ (fun rv σ' => rv = some (.inl (bI (suA T (opA P i) (nuN P i) c))) ∧ σ' = σ) := by
  have h6 := hC.2.1
  have hnu := fun q => hN.1 i q
  have hn7 := fun q => hN.2.1 i q
  have hty := fun q => hY.1 i q
  rw [ho] at hnu hn7 hty ⊢
  have htk : 0 ≤ c.1 := htk
  have m0 := mtp_lt hC 0
  have m1 := mtp_lt hC 1
  iterate 3 refine Wp.go rfl ?_
  refine Wp.go (if_pos ⟨rfl, rfl, (inE (n := 30) hx (by first | omega | (have := (hnu (by omega)).2; omega) | (have := hn7 (by omega); omega)))⟩) ?_
  iterate 4 refine Wp.go rfl ?_
  refine Wp.go (if_pos ⟨rfl, rfl, (inE (n := 30) hx (by first | omega | (have := (hnu (by omega)).2; omega) | (have := hn7 (by omega); omega)))⟩) ?_
  refine Wp.go rfl ?_
  refine Wp.swO (rdE hx (by first | omega | (have := (hnu (by omega)).2; omega) | (have := hn7 (by omega); omega)) (((hP).op (by omega)).trans (congrArg nI ho))) (by decide) (by decide) ?_
  refine Wp.go rfl ?_
  refine Wp.ret rfl ?_
  exact ⟨rv1 (by rw [su1]), rfl⟩
set_option maxRecDepth 100000 in
theorem sX12_wanted_2 {P : pT} {T : tT} {c : cS} {σ : mc_G} (hC : mHd c σ) (hP : cMP P σ) (hN : pNum P) (hY : pTy P T) (hO : tOk T) {x : Int32} {i : Nat} (hx : x = nI i) (hi : i < pn P) (hn : pn P ≤ 30) (hg : gC P T c) (hT : cMT T σ) (ho : opA P i = 2) (htk : tkA 2 ≤ c.1) : Wp miX12_isWanted 0 [(0, .inr (some 167)), (1, .inl x)] [] σ (fun rv σ' => rv = some (.inl (bI (suA T (opA P i) (nuN P i) c))) ∧ σ' = σ) := by
  have h6 := hC.2.1
  have hnu := fun q => hN.1 i q
  have hn7 := fun q => hN.2.1 i q
  have hty := fun q => hY.1 i q
  rw [ho] at hnu hn7 hty ⊢
  have htk : 0 ≤ c.1 := htk
  have m0 := mtp_lt hC 0
  have m1 := mtp_lt hC 1
  iterate 3 refine Wp.go rfl ?_
  refine Wp.go (if_pos ⟨rfl, rfl, (inE (n := 30) hx (by first | omega | (have := (hnu (by omega)).2; omega) | (have := hn7 (by omega); omega)))⟩) ?_
  iterate 4 refine Wp.go rfl ?_
  refine Wp.go (if_pos ⟨rfl, rfl, (inE (n := 30) hx (by first | omega | (have := (hnu (by omega)).2; omega) | (have := hn7 (by omega); omega)))⟩) ?_
  refine Wp.go rfl ?_
  refine Wp.swO (rdE hx (by first | omega | (have := (hnu (by omega)).2; omega) | (have := hn7 (by omega); omega)) (((hP).op (by omega)).trans (congrArg nI ho))) (by decide) (by decide) ?_
  refine Wp.go rfl ?_
  refine Wp.ret rfl ?_
  exact ⟨rv1 (by rw [su2]), rfl⟩
set_option maxRecDepth 100000 in
theorem sX12_wanted_3 {P : pT} {T : tT} {c : cS} {σ : mc_G} (hC : mHd c σ) (hP : cMP P σ) (hN : pNum P) (hY : pTy P T) (hO : tOk T) {x : Int32} {i : Nat} (hx : x = nI i) (hi : i < pn P) (hn : pn P ≤ 30) (hg : gC P T c) (hT : cMT T σ) (ho : opA P i = 3) (htk : tkA 3 ≤ c.1) : Wp miX12_isWanted 0 [(0, .inr (some 167)), (1, .inl x)] [] σ (fun rv σ' => rv = some (.inl (bI (suA T (opA P i) (nuN P i) c))) ∧ σ' = σ) := by
  have h6 := hC.2.1
  have hnu := fun q => hN.1 i q
  have hn7 := fun q => hN.2.1 i q
  have hty := fun q => hY.1 i q
  rw [ho] at hnu hn7 hty ⊢
  have htk : 0 ≤ c.1 := htk
  have m0 := mtp_lt hC 0
  have m1 := mtp_lt hC 1
  have hkb := (hC.2.2 (nuN P i) (by have := (hnu (by decide)).2; omega)).2
  iterate 3 refine Wp.go rfl ?_
  refine Wp.go (if_pos ⟨rfl, rfl, (inE (n := 30) hx (by first | omega | (have := (hnu (by omega)).2; omega) | (have := hn7 (by omega); omega)))⟩) ?_
  iterate 4 refine Wp.go rfl ?_
  refine Wp.go (if_pos ⟨rfl, rfl, (inE (n := 30) hx (by first | omega | (have := (hnu (by omega)).2; omega) | (have := hn7 (by omega); omega)))⟩) ?_
  refine Wp.go rfl ?_
  refine Wp.swI 0 (rdE hx (by first | omega | (have := (hnu (by omega)).2; omega) | (have := hn7 (by omega); omega)) (((hP).op (by omega)).trans (congrArg nI ho))) (by decide) (by decide) (by decide) ?_
  iterate 3 refine Wp.go rfl ?_
  refine Wp.go (if_pos ⟨rfl, rfl, (inE (n := 14) (rdE hx (by first | omega | (have := (hnu (by omega)).2; omega) | (have := hn7 (by omega); omega)) (((hP).nu (by omega)).trans (hnu (by omega)).1)) (by first | omega | (have := (hnu (by omega)).2; omega) | (have := hn7 (by omega); omega)))⟩) ?_
  refine Wp.go rfl ?_
  refine Wp.eqN (a := c.2 (nuN P i)) (b := 0) (rdE (rdE hx (by first | omega | (have := (hnu (by omega)).2; omega) | (have := hn7 (by omega); omega)) (((hP).nu (by omega)).trans (hnu (by omega)).1)) (by first | omega | (have := (hnu (by omega)).2; omega) | (have := hn7 (by omega); omega)) ((hC).2.2 (nuN P i) (by first | omega | (have := (hnu (by omega)).2; omega) | (have := hn7 (by omega); omega))).1) (rfl : _ = nI 0) (by first | omega | (have := (hnu (by omega)).2; omega) | (have := hn7 (by omega); omega)) (by first | omega | (have := (hnu (by omega)).2; omega) | (have := hn7 (by omega); omega)) (fun (h1 : c.2 (nuN P i) = 0) => ?_) (fun (h1 : ¬ c.2 (nuN P i) = 0) => ?_)
  · refine Wp.go rfl ?_
    refine Wp.ret rfl ?_
    exact ⟨rv0 (by rw [su3, kA_8 (hnu (by decide)).2]; grind [whK, loK]), rfl⟩
  · iterate 3 refine Wp.go rfl ?_
    refine Wp.go (if_pos ⟨rfl, rfl, (inE (n := 14) (rdE hx (by first | omega | (have := (hnu (by omega)).2; omega) | (have := hn7 (by omega); omega)) (((hP).nu (by omega)).trans (hnu (by omega)).1)) (by first | omega | (have := (hnu (by omega)).2; omega) | (have := hn7 (by omega); omega)))⟩) ?_
    refine Wp.call rfl cqX12_isHalfOrLong (sX12_isHalfOrLong (rdE (rdE hx (by first | omega | (have := (hnu (by omega)).2; omega) | (have := hn7 (by omega); omega)) (((hP).nu (by omega)).trans (hnu (by omega)).1)) (by first | omega | (have := (hnu (by omega)).2; omega) | (have := hn7 (by omega); omega)) ((hC).2.2 (nuN P i) (by first | omega | (have := (hnu (by omega)).2; omega) | (have := hn7 (by omega); omega))).1) (by first | omega | (have := (hnu (by omega)).2; omega) | (have := hn7 (by omega); omega))) (fun rv1 s1 hq1 => ?_)
    obtain ⟨rfl, hq1⟩ := hq1
    replace hq1 := hq1.symm
    subst hq1
    refine Wp.go rfl ?_
    refine Wp.bneD (p := c.2 (nuN P i) = 2 ∨ c.2 (nuN P i) = 3) rfl (fun (h2 : c.2 (nuN P i) = 2 ∨ c.2 (nuN P i) = 3) => ?_) (fun (h2 : ¬ (c.2 (nuN P i) = 2 ∨ c.2 (nuN P i) = 3)) => ?_)
    · refine Wp.go rfl ?_
      refine Wp.ret rfl ?_
      exact ⟨rv0 (by rw [su3, kA_8 (hnu (by decide)).2]; grind [whK, loK]), rfl⟩
    · iterate 2 refine Wp.go rfl ?_
      refine Wp.ret rfl ?_
      exact ⟨rv1 (by rw [su3, kA_8 (hnu (by decide)).2]; grind [whK, loK]), rfl⟩
set_option maxRecDepth 100000 in
theorem sX12_wanted_4 {P : pT} {T : tT} {c : cS} {σ : mc_G} (hC : mHd c σ) (hP : cMP P σ) (hN : pNum P) (hY : pTy P T) (hO : tOk T) {x : Int32} {i : Nat} (hx : x = nI i) (hi : i < pn P) (hn : pn P ≤ 30) (hg : gC P T c) (hT : cMT T σ) (ho : opA P i = 4) (htk : tkA 4 ≤ c.1) : Wp miX12_isWanted 0 [(0, .inr (some 167)), (1, .inl x)] [] σ (fun rv σ' => rv = some (.inl (bI (suA T (opA P i) (nuN P i) c))) ∧ σ' = σ) := by
  have h6 := hC.2.1
  have hnu := fun q => hN.1 i q
  have hn7 := fun q => hN.2.1 i q
  have hty := fun q => hY.1 i q
  rw [ho] at hnu hn7 hty ⊢
  have htk : 0 ≤ c.1 := htk
  have m0 := mtp_lt hC 0
  have m1 := mtp_lt hC 1
  have hkb := (hC.2.2 (nuN P i) (by have := (hnu (by decide)).2; omega)).2
  have hkc := (hC.2.2 (nuN P i + 1) (by have := hn7 (by decide); omega)).2
  iterate 3 refine Wp.go rfl ?_
  refine Wp.go (if_pos ⟨rfl, rfl, (inE (n := 30) hx (by first | omega | (have := (hnu (by omega)).2; omega) | (have := hn7 (by omega); omega)))⟩) ?_
  iterate 4 refine Wp.go rfl ?_
  refine Wp.go (if_pos ⟨rfl, rfl, (inE (n := 30) hx (by first | omega | (have := (hnu (by omega)).2; omega) | (have := hn7 (by omega); omega)))⟩) ?_
  refine Wp.go rfl ?_
  refine Wp.swI 1 (rdE hx (by first | omega | (have := (hnu (by omega)).2; omega) | (have := hn7 (by omega); omega)) (((hP).op (by omega)).trans (congrArg nI ho))) (by decide) (by decide) (by decide) ?_
  iterate 3 refine Wp.go rfl ?_
  refine Wp.go (if_pos ⟨rfl, rfl, (inE (n := 14) (rdE hx (by first | omega | (have := (hnu (by omega)).2; omega) | (have := hn7 (by omega); omega)) (((hP).nu (by omega)).trans (hnu (by omega)).1)) (by first | omega | (have := (hnu (by omega)).2; omega) | (have := hn7 (by omega); omega)))⟩) ?_
  iterate 2 refine Wp.go rfl ?_
  refine Wp.neN (a := c.2 (nuN P i)) (b := 2) (rdE (rdE hx (by first | omega | (have := (hnu (by omega)).2; omega) | (have := hn7 (by omega); omega)) (((hP).nu (by omega)).trans (hnu (by omega)).1)) (by first | omega | (have := (hnu (by omega)).2; omega) | (have := hn7 (by omega); omega)) ((hC).2.2 (nuN P i) (by first | omega | (have := (hnu (by omega)).2; omega) | (have := hn7 (by omega); omega))).1) (rfl : _ = nI 2) (by first | omega | (have := (hnu (by omega)).2; omega) | (have := hn7 (by omega); omega)) (by first | omega | (have := (hnu (by omega)).2; omega) | (have := hn7 (by omega); omega)) (fun (h1 : ¬ c.2 (nuN P i) = 2) => ?_) (fun (h1 : c.2 (nuN P i) = 2) => ?_)
  · refine Wp.go rfl ?_
    refine Wp.ret rfl ?_
    exact ⟨rv0 (by rw [su4, kA_8 (hnu (by decide)).2, kA_8 (show nuN P i + 1 < 8 by have := hn7 (by decide); omega)]; grind [whK, loK]), rfl⟩
  · iterate 5 refine Wp.go rfl ?_
    refine Wp.go (if_pos ⟨rfl, rfl, (inE (n := 14) (nE_add (rdE hx (by first | omega | (have := (hnu (by omega)).2; omega) | (have := hn7 (by omega); omega)) (((hP).nu (by omega)).trans (hnu (by omega)).1)) (rfl : _ = nI 1)) (by first | omega | (have := (hnu (by omega)).2; omega) | (have := hn7 (by omega); omega)))⟩) ?_
    iterate 2 refine Wp.go rfl ?_
    refine Wp.neN (a := c.2 ((nuN P i) + 1)) (b := 3) (rdE (nE_add (rdE hx (by first | omega | (have := (hnu (by omega)).2; omega) | (have := hn7 (by omega); omega)) (((hP).nu (by omega)).trans (hnu (by omega)).1)) (rfl : _ = nI 1)) (by first | omega | (have := (hnu (by omega)).2; omega) | (have := hn7 (by omega); omega)) ((hC).2.2 ((nuN P i) + 1) (by first | omega | (have := (hnu (by omega)).2; omega) | (have := hn7 (by omega); omega))).1) (rfl : _ = nI 3) (by first | omega | (have := (hnu (by omega)).2; omega) | (have := hn7 (by omega); omega)) (by first | omega | (have := (hnu (by omega)).2; omega) | (have := hn7 (by omega); omega)) (fun (h2 : ¬ c.2 ((nuN P i) + 1) = 3) => ?_) (fun (h2 : c.2 ((nuN P i) + 1) = 3) => ?_)
    · refine Wp.go rfl ?_
      refine Wp.ret rfl ?_
      exact ⟨rv0 (by rw [su4, kA_8 (hnu (by decide)).2, kA_8 (show nuN P i + 1 < 8 by have := hn7 (by decide); omega)]; grind [whK, loK]), rfl⟩
    · iterate 2 refine Wp.go rfl ?_
      refine Wp.ret rfl ?_
      exact ⟨rv1 (by rw [su4, kA_8 (hnu (by decide)).2, kA_8 (show nuN P i + 1 < 8 by have := hn7 (by decide); omega)]; grind [whK, loK]), rfl⟩
set_option maxRecDepth 100000 in
theorem sX12_wanted_5 {P : pT} {T : tT} {c : cS} {σ : mc_G} (hC : mHd c σ) (hP : cMP P σ) (hN : pNum P) (hY : pTy P T) (hO : tOk T) {x : Int32} {i : Nat} (hx : x = nI i) (hi : i < pn P) (hn : pn P ≤ 30) (hg : gC P T c) (hT : cMT T σ) (ho : opA P i = 5) (htk : tkA 5 ≤ c.1) : Wp miX12_isWanted 0 [(0, .inr (some 167)), (1, .inl x)] [] σ (fun rv σ' => rv = some (.inl (bI (suA T (opA P i) (nuN P i) c))) ∧ σ' = σ) := by
  have h6 := hC.2.1
  have hnu := fun q => hN.1 i q
  have hn7 := fun q => hN.2.1 i q
  have hty := fun q => hY.1 i q
  rw [ho] at hnu hn7 hty ⊢
  have htk : 1 ≤ c.1 := htk
  have m0 := mtp_lt hC 0
  have m1 := mtp_lt hC 1
  have hp2 : tpA c 0 ≠ 2 := by rw [tp_c (by omega)]; exact (hg.2.2.2.2.2 (by omega)).2
  iterate 3 refine Wp.go rfl ?_
  refine Wp.go (if_pos ⟨rfl, rfl, (inE (n := 30) hx (by first | omega | (have := (hnu (by omega)).2; omega) | (have := hn7 (by omega); omega)))⟩) ?_
  iterate 4 refine Wp.go rfl ?_
  refine Wp.go (if_pos ⟨rfl, rfl, (inE (n := 30) hx (by first | omega | (have := (hnu (by omega)).2; omega) | (have := hn7 (by omega); omega)))⟩) ?_
  refine Wp.go rfl ?_
  refine Wp.swI 2 (rdE hx (by first | omega | (have := (hnu (by omega)).2; omega) | (have := hn7 (by omega); omega)) (((hP).op (by omega)).trans (congrArg nI ho))) (by decide) (by decide) (by decide) ?_
  iterate 2 refine Wp.go rfl ?_
  refine Wp.call rfl cqX12_top (sX12_top (hC) (rfl : _ = nI 0) (by omega)) (fun rv1 s1 hq1 => ?_)
  obtain ⟨rfl, hq1⟩ := hq1
  replace hq1 := hq1.symm
  subst hq1
  refine Wp.go rfl ?_
  refine Wp.eqN (a := tpA c 0) (b := 0) rfl (rfl : _ = nI 0) (by first | omega | (have := (hnu (by omega)).2; omega) | (have := hn7 (by omega); omega)) (by first | omega | (have := (hnu (by omega)).2; omega) | (have := hn7 (by omega); omega)) (fun (h1 : tpA c 0 = 0) => ?_) (fun (h1 : ¬ tpA c 0 = 0) => ?_)
  · refine Wp.go rfl ?_
    refine Wp.ret rfl ?_
    exact ⟨rv0 (by rw [su5]; grind [whK, loK]), rfl⟩
  · iterate 2 refine Wp.go rfl ?_
    refine Wp.call rfl cqX12_top (sX12_top (hC) (rfl : _ = nI 0) (by omega)) (fun rv2 s2 hq2 => ?_)
    obtain ⟨rfl, hq2⟩ := hq2
    replace hq2 := hq2.symm
    subst hq2
    iterate 2 refine Wp.go rfl ?_
    refine Wp.eqN (a := tpA c 0) (b := 3) rfl (rfl : _ = nI 3) (by first | omega | (have := (hnu (by omega)).2; omega) | (have := hn7 (by omega); omega)) (by first | omega | (have := (hnu (by omega)).2; omega) | (have := hn7 (by omega); omega)) (fun (h2 : tpA c 0 = 3) => ?_) (fun (h2 : ¬ tpA c 0 = 3) => ?_)
    · refine Wp.go rfl ?_
      refine Wp.ret rfl ?_
      exact ⟨rv0 (by rw [su5]; grind [whK, loK]), rfl⟩
    · iterate 2 refine Wp.go rfl ?_
      refine Wp.ret rfl ?_
      exact ⟨rv1 (by rw [su5]; grind [whK, loK]), rfl⟩
set_option maxRecDepth 100000 in
theorem sX12_wanted_6 {P : pT} {T : tT} {c : cS} {σ : mc_G} (hC : mHd c σ) (hP : cMP P σ) (hN : pNum P) (hY : pTy P T) (hO : tOk T) {x : Int32} {i : Nat} (hx : x = nI i) (hi : i < pn P) (hn : pn P ≤ 30) (hg : gC P T c) (hT : cMT T σ) (ho : opA P i = 6) (htk : tkA 6 ≤ c.1) : Wp miX12_isWanted 0 [(0, .inr (some 167)), (1, .inl x)] [] σ (fun rv σ' => rv = some (.inl (bI (suA T (opA P i) (nuN P i) c))) ∧ σ' = σ) := by
  have h6 := hC.2.1
  have hnu := fun q => hN.1 i q
  have hn7 := fun q => hN.2.1 i q
  have hty := fun q => hY.1 i q
  rw [ho] at hnu hn7 hty ⊢
  have htk : 2 ≤ c.1 := htk
  have m0 := mtp_lt hC 0
  have m1 := mtp_lt hC 1
  iterate 3 refine Wp.go rfl ?_
  refine Wp.go (if_pos ⟨rfl, rfl, (inE (n := 30) hx (by first | omega | (have := (hnu (by omega)).2; omega) | (have := hn7 (by omega); omega)))⟩) ?_
  iterate 4 refine Wp.go rfl ?_
  refine Wp.go (if_pos ⟨rfl, rfl, (inE (n := 30) hx (by first | omega | (have := (hnu (by omega)).2; omega) | (have := hn7 (by omega); omega)))⟩) ?_
  refine Wp.go rfl ?_
  refine Wp.swI 3 (rdE hx (by first | omega | (have := (hnu (by omega)).2; omega) | (have := hn7 (by omega); omega)) (((hP).op (by omega)).trans (congrArg nI ho))) (by decide) (by decide) (by decide) ?_
  iterate 2 refine Wp.go rfl ?_
  refine Wp.call rfl cqX12_isLongOnTop (sX12_isLongOnTop (hC) (rfl : _ = nI 0) (by omega)) (fun rv1 s1 hq1 => ?_)
  obtain ⟨rfl, hq1⟩ := hq1
  replace hq1 := hq1.symm
  subst hq1
  refine Wp.retB (b := loK (tpA c (0 + 1)) (tpA c 0)) rfl rfl rfl ?_
  exact ⟨rvB rfl (by rw [su6]), rfl⟩
set_option maxRecDepth 100000 in
theorem sX12_wanted_7 {P : pT} {T : tT} {c : cS} {σ : mc_G} (hC : mHd c σ) (hP : cMP P σ) (hN : pNum P) (hY : pTy P T) (hO : tOk T) {x : Int32} {i : Nat} (hx : x = nI i) (hi : i < pn P) (hn : pn P ≤ 30) (hg : gC P T c) (hT : cMT T σ) (ho : opA P i = 7) (htk : tkA 7 ≤ c.1) : Wp miX12_isWanted 0 [(0, .inr (some 167)), (1, .inl x)] [] σ (fun rv σ' => rv = some (.inl (bI (suA T (opA P i) (nuN P i) c))) ∧ σ' = σ) := by
  have h6 := hC.2.1
  have hnu := fun q => hN.1 i q
  have hn7 := fun q => hN.2.1 i q
  have hty := fun q => hY.1 i q
  rw [ho] at hnu hn7 hty ⊢
  have htk : 1 ≤ c.1 := htk
  have m0 := mtp_lt hC 0
  have m1 := mtp_lt hC 1
  have hp2 : tpA c 0 ≠ 2 := by rw [tp_c (by omega)]; exact (hg.2.2.2.2.2 (by omega)).2
  iterate 3 refine Wp.go rfl ?_
  refine Wp.go (if_pos ⟨rfl, rfl, (inE (n := 30) hx (by first | omega | (have := (hnu (by omega)).2; omega) | (have := hn7 (by omega); omega)))⟩) ?_
  iterate 4 refine Wp.go rfl ?_
  refine Wp.go (if_pos ⟨rfl, rfl, (inE (n := 30) hx (by first | omega | (have := (hnu (by omega)).2; omega) | (have := hn7 (by omega); omega)))⟩) ?_
  refine Wp.go rfl ?_
  refine Wp.swI 4 (rdE hx (by first | omega | (have := (hnu (by omega)).2; omega) | (have := hn7 (by omega); omega)) (((hP).op (by omega)).trans (congrArg nI ho))) (by decide) (by decide) (by decide) ?_
  iterate 2 refine Wp.go rfl ?_
  refine Wp.call rfl cqX12_top (sX12_top (hC) (rfl : _ = nI 0) (by omega)) (fun rv1 s1 hq1 => ?_)
  obtain ⟨rfl, hq1⟩ := hq1
  replace hq1 := hq1.symm
  subst hq1
  refine Wp.go rfl ?_
  refine Wp.eqN (a := tpA c 0) (b := 0) rfl (rfl : _ = nI 0) (by first | omega | (have := (hnu (by omega)).2; omega) | (have := hn7 (by omega); omega)) (by first | omega | (have := (hnu (by omega)).2; omega) | (have := hn7 (by omega); omega)) (fun (h1 : tpA c 0 = 0) => ?_) (fun (h1 : ¬ tpA c 0 = 0) => ?_)
  · refine Wp.go rfl ?_
    refine Wp.ret rfl ?_
    exact ⟨rv0 (by rw [su7]; grind [whK, loK]), rfl⟩
  · iterate 2 refine Wp.go rfl ?_
    refine Wp.call rfl cqX12_top (sX12_top (hC) (rfl : _ = nI 0) (by omega)) (fun rv2 s2 hq2 => ?_)
    obtain ⟨rfl, hq2⟩ := hq2
    replace hq2 := hq2.symm
    subst hq2
    iterate 2 refine Wp.go rfl ?_
    refine Wp.eqN (a := tpA c 0) (b := 3) rfl (rfl : _ = nI 3) (by first | omega | (have := (hnu (by omega)).2; omega) | (have := hn7 (by omega); omega)) (by first | omega | (have := (hnu (by omega)).2; omega) | (have := hn7 (by omega); omega)) (fun (h2 : tpA c 0 = 3) => ?_) (fun (h2 : ¬ tpA c 0 = 3) => ?_)
    · refine Wp.go rfl ?_
      refine Wp.ret rfl ?_
      exact ⟨rv0 (by rw [su7]; grind [whK, loK]), rfl⟩
    · iterate 2 refine Wp.go rfl ?_
      refine Wp.ret rfl ?_
      exact ⟨rv1 (by rw [su7]; grind [whK, loK]), rfl⟩
set_option maxRecDepth 100000 in
theorem sX12_wanted_8 {P : pT} {T : tT} {c : cS} {σ : mc_G} (hC : mHd c σ) (hP : cMP P σ) (hN : pNum P) (hY : pTy P T) (hO : tOk T) {x : Int32} {i : Nat} (hx : x = nI i) (hi : i < pn P) (hn : pn P ≤ 30) (hg : gC P T c) (hT : cMT T σ) (ho : opA P i = 8) (htk : tkA 8 ≤ c.1) : Wp miX12_isWanted 0 [(0, .inr (some 167)), (1, .inl x)] [] σ (fun rv σ' => rv = some (.inl (bI (suA T (opA P i) (nuN P i) c))) ∧ σ' = σ) := by
  have h6 := hC.2.1
  have hnu := fun q => hN.1 i q
  have hn7 := fun q => hN.2.1 i q
  have hty := fun q => hY.1 i q
  rw [ho] at hnu hn7 hty ⊢
  have htk : 2 ≤ c.1 := htk
  have m0 := mtp_lt hC 0
  have m1 := mtp_lt hC 1
  iterate 3 refine Wp.go rfl ?_
  refine Wp.go (if_pos ⟨rfl, rfl, (inE (n := 30) hx (by first | omega | (have := (hnu (by omega)).2; omega) | (have := hn7 (by omega); omega)))⟩) ?_
  iterate 4 refine Wp.go rfl ?_
  refine Wp.go (if_pos ⟨rfl, rfl, (inE (n := 30) hx (by first | omega | (have := (hnu (by omega)).2; omega) | (have := hn7 (by omega); omega)))⟩) ?_
  refine Wp.go rfl ?_
  refine Wp.swI 5 (rdE hx (by first | omega | (have := (hnu (by omega)).2; omega) | (have := hn7 (by omega); omega)) (((hP).op (by omega)).trans (congrArg nI ho))) (by decide) (by decide) (by decide) ?_
  iterate 2 refine Wp.go rfl ?_
  refine Wp.call rfl cqX12_isLongOnTop (sX12_isLongOnTop (hC) (rfl : _ = nI 0) (by omega)) (fun rv1 s1 hq1 => ?_)
  obtain ⟨rfl, hq1⟩ := hq1
  replace hq1 := hq1.symm
  subst hq1
  refine Wp.go rfl ?_
  refine Wp.bneE rfl (fun (h1 : (loK (tpA c (0 + 1)) (tpA c 0)) = true) => ?_) (fun (h1 : (loK (tpA c (0 + 1)) (tpA c 0)) = false) => ?_)
  · iterate 2 refine Wp.go rfl ?_
    refine Wp.ret rfl ?_
    exact ⟨rv1 (by rw [su8]; grind [whK, loK]), rfl⟩
  · iterate 2 refine Wp.go rfl ?_
    refine Wp.call rfl cqX12_top (sX12_top (hC) (rfl : _ = nI 0) (by omega)) (fun rv2 s2 hq2 => ?_)
    obtain ⟨rfl, hq2⟩ := hq2
    replace hq2 := hq2.symm
    subst hq2
    refine Wp.go rfl ?_
    refine Wp.eqN (a := tpA c 0) (b := 0) rfl (rfl : _ = nI 0) (by first | omega | (have := (hnu (by omega)).2; omega) | (have := hn7 (by omega); omega)) (by first | omega | (have := (hnu (by omega)).2; omega) | (have := hn7 (by omega); omega)) (fun (h2 : tpA c 0 = 0) => ?_) (fun (h2 : ¬ tpA c 0 = 0) => ?_)
    · refine Wp.go rfl ?_
      refine Wp.ret rfl ?_
      exact ⟨rv0 (by rw [su8]; grind [whK, loK]), rfl⟩
    · iterate 2 refine Wp.go rfl ?_
      refine Wp.call rfl cqX12_top (sX12_top (hC) (rfl : _ = nI 1) (by omega)) (fun rv3 s3 hq3 => ?_)
      obtain ⟨rfl, hq3⟩ := hq3
      replace hq3 := hq3.symm
      subst hq3
      refine Wp.go rfl ?_
      refine Wp.eqN (a := tpA c 1) (b := 0) rfl (rfl : _ = nI 0) (by first | omega | (have := (hnu (by omega)).2; omega) | (have := hn7 (by omega); omega)) (by first | omega | (have := (hnu (by omega)).2; omega) | (have := hn7 (by omega); omega)) (fun (h3 : tpA c 1 = 0) => ?_) (fun (h3 : ¬ tpA c 1 = 0) => ?_)
      · refine Wp.go rfl ?_
        refine Wp.ret rfl ?_
        exact ⟨rv0 (by rw [su8]; grind [whK, loK]), rfl⟩
      · iterate 2 refine Wp.go rfl ?_
        refine Wp.call rfl cqX12_top (sX12_top (hC) (rfl : _ = nI 0) (by omega)) (fun rv4 s4 hq4 => ?_)
        obtain ⟨rfl, hq4⟩ := hq4
        replace hq4 := hq4.symm
        subst hq4
        refine Wp.call rfl cqX12_isHalfOrLong (sX12_isHalfOrLong rfl (by first | omega | (have := (hnu (by omega)).2; omega) | (have := hn7 (by omega); omega))) (fun rv5 s5 hq5 => ?_)
        obtain ⟨rfl, hq5⟩ := hq5
        replace hq5 := hq5.symm
        subst hq5
        refine Wp.go rfl ?_
        refine Wp.bneD (p := tpA c 0 = 2 ∨ tpA c 0 = 3) rfl (fun (h4 : tpA c 0 = 2 ∨ tpA c 0 = 3) => ?_) (fun (h4 : ¬ (tpA c 0 = 2 ∨ tpA c 0 = 3)) => ?_)
        · refine Wp.go rfl ?_
          refine Wp.ret rfl ?_
          exact ⟨rv0 (by rw [su8]; grind [whK, loK]), rfl⟩
        · iterate 2 refine Wp.go rfl ?_
          refine Wp.call rfl cqX12_top (sX12_top (hC) (rfl : _ = nI 1) (by omega)) (fun rv6 s6 hq6 => ?_)
          obtain ⟨rfl, hq6⟩ := hq6
          replace hq6 := hq6.symm
          subst hq6
          refine Wp.call rfl cqX12_isHalfOrLong (sX12_isHalfOrLong rfl (by first | omega | (have := (hnu (by omega)).2; omega) | (have := hn7 (by omega); omega))) (fun rv7 s7 hq7 => ?_)
          obtain ⟨rfl, hq7⟩ := hq7
          replace hq7 := hq7.symm
          subst hq7
          refine Wp.go rfl ?_
          refine Wp.bneD (p := tpA c 1 = 2 ∨ tpA c 1 = 3) rfl (fun (h5 : tpA c 1 = 2 ∨ tpA c 1 = 3) => ?_) (fun (h5 : ¬ (tpA c 1 = 2 ∨ tpA c 1 = 3)) => ?_)
          · refine Wp.go rfl ?_
            refine Wp.ret rfl ?_
            exact ⟨rv0 (by rw [su8]; grind [whK, loK]), rfl⟩
          · iterate 2 refine Wp.go rfl ?_
            refine Wp.ret rfl ?_
            exact ⟨rv1 (by rw [su8]; grind [whK, loK]), rfl⟩
set_option maxRecDepth 100000 in
theorem sX12_wanted_9 {P : pT} {T : tT} {c : cS} {σ : mc_G} (hC : mHd c σ) (hP : cMP P σ) (hN : pNum P) (hY : pTy P T) (hO : tOk T) {x : Int32} {i : Nat} (hx : x = nI i) (hi : i < pn P) (hn : pn P ≤ 30) (hg : gC P T c) (hT : cMT T σ) (ho : opA P i = 9) (htk : tkA 9 ≤ c.1) : Wp miX12_isWanted 0 [(0, .inr (some 167)), (1, .inl x)] [] σ (fun rv σ' => rv = some (.inl (bI (suA T (opA P i) (nuN P i) c))) ∧ σ' = σ) := by
  have h6 := hC.2.1
  have hnu := fun q => hN.1 i q
  have hn7 := fun q => hN.2.1 i q
  have hty := fun q => hY.1 i q
  rw [ho] at hnu hn7 hty ⊢
  have htk : 1 ≤ c.1 := htk
  have m0 := mtp_lt hC 0
  have m1 := mtp_lt hC 1
  have hp2 : tpA c 0 ≠ 2 := by rw [tp_c (by omega)]; exact (hg.2.2.2.2.2 (by omega)).2
  iterate 3 refine Wp.go rfl ?_
  refine Wp.go (if_pos ⟨rfl, rfl, (inE (n := 30) hx (by first | omega | (have := (hnu (by omega)).2; omega) | (have := hn7 (by omega); omega)))⟩) ?_
  iterate 4 refine Wp.go rfl ?_
  refine Wp.go (if_pos ⟨rfl, rfl, (inE (n := 30) hx (by first | omega | (have := (hnu (by omega)).2; omega) | (have := hn7 (by omega); omega)))⟩) ?_
  refine Wp.go rfl ?_
  refine Wp.swI 6 (rdE hx (by first | omega | (have := (hnu (by omega)).2; omega) | (have := hn7 (by omega); omega)) (((hP).op (by omega)).trans (congrArg nI ho))) (by decide) (by decide) (by decide) ?_
  iterate 2 refine Wp.go rfl ?_
  refine Wp.call rfl cqX12_top (sX12_top (hC) (rfl : _ = nI 0) (by omega)) (fun rv1 s1 hq1 => ?_)
  obtain ⟨rfl, hq1⟩ := hq1
  replace hq1 := hq1.symm
  subst hq1
  refine Wp.go rfl ?_
  refine Wp.eqN (a := tpA c 0) (b := 0) rfl (rfl : _ = nI 0) (by first | omega | (have := (hnu (by omega)).2; omega) | (have := hn7 (by omega); omega)) (by first | omega | (have := (hnu (by omega)).2; omega) | (have := hn7 (by omega); omega)) (fun (h1 : tpA c 0 = 0) => ?_) (fun (h1 : ¬ tpA c 0 = 0) => ?_)
  · refine Wp.go rfl ?_
    refine Wp.ret rfl ?_
    exact ⟨rv0 (by rw [su9]; grind [whK, loK]), rfl⟩
  · iterate 2 refine Wp.go rfl ?_
    refine Wp.call rfl cqX12_top (sX12_top (hC) (rfl : _ = nI 0) (by omega)) (fun rv2 s2 hq2 => ?_)
    obtain ⟨rfl, hq2⟩ := hq2
    replace hq2 := hq2.symm
    subst hq2
    iterate 2 refine Wp.go rfl ?_
    refine Wp.eqN (a := tpA c 0) (b := 3) rfl (rfl : _ = nI 3) (by first | omega | (have := (hnu (by omega)).2; omega) | (have := hn7 (by omega); omega)) (by first | omega | (have := (hnu (by omega)).2; omega) | (have := hn7 (by omega); omega)) (fun (h2 : tpA c 0 = 3) => ?_) (fun (h2 : ¬ tpA c 0 = 3) => ?_)
    · refine Wp.go rfl ?_
      refine Wp.ret rfl ?_
      exact ⟨rv0 (by rw [su9]; grind [whK, loK]), rfl⟩
    · iterate 2 refine Wp.go rfl ?_
      refine Wp.ret rfl ?_
      exact ⟨rv1 (by rw [su9]; grind [whK, loK]), rfl⟩
set_option maxRecDepth 100000 in
theorem sX12_wanted_10 {P : pT} {T : tT} {c : cS} {σ : mc_G} (hC : mHd c σ) (hP : cMP P σ) (hN : pNum P) (hY : pTy P T) (hO : tOk T) {x : Int32} {i : Nat} (hx : x = nI i) (hi : i < pn P) (hn : pn P ≤ 30) (hg : gC P T c) (hT : cMT T σ) (ho : opA P i = 10) (htk : tkA 10 ≤ c.1) : Wp miX12_isWanted 0 [(0, .inr (some 167)), (1, .inl x)] [] σ (fun rv σ' => rv = some (.inl (bI (suA T (opA P i) (nuN P i) c))) ∧ σ' = σ) := by
  have h6 := hC.2.1
  have hnu := fun q => hN.1 i q
  have hn7 := fun q => hN.2.1 i q
  have hty := fun q => hY.1 i q
  rw [ho] at hnu hn7 hty ⊢
  have htk : 2 ≤ c.1 := htk
  have m0 := mtp_lt hC 0
  have m1 := mtp_lt hC 1
  iterate 3 refine Wp.go rfl ?_
  refine Wp.go (if_pos ⟨rfl, rfl, (inE (n := 30) hx (by first | omega | (have := (hnu (by omega)).2; omega) | (have := hn7 (by omega); omega)))⟩) ?_
  iterate 4 refine Wp.go rfl ?_
  refine Wp.go (if_pos ⟨rfl, rfl, (inE (n := 30) hx (by first | omega | (have := (hnu (by omega)).2; omega) | (have := hn7 (by omega); omega)))⟩) ?_
  refine Wp.go rfl ?_
  refine Wp.swI 7 (rdE hx (by first | omega | (have := (hnu (by omega)).2; omega) | (have := hn7 (by omega); omega)) (((hP).op (by omega)).trans (congrArg nI ho))) (by decide) (by decide) (by decide) ?_
  iterate 2 refine Wp.go rfl ?_
  refine Wp.call rfl cqX12_top (sX12_top (hC) (rfl : _ = nI 0) (by omega)) (fun rv1 s1 hq1 => ?_)
  obtain ⟨rfl, hq1⟩ := hq1
  replace hq1 := hq1.symm
  subst hq1
  iterate 2 refine Wp.go rfl ?_
  refine Wp.neN (a := tpA c 0) (b := 1) rfl (rfl : _ = nI 1) (by first | omega | (have := (hnu (by omega)).2; omega) | (have := hn7 (by omega); omega)) (by first | omega | (have := (hnu (by omega)).2; omega) | (have := hn7 (by omega); omega)) (fun (h1 : ¬ tpA c 0 = 1) => ?_) (fun (h1 : tpA c 0 = 1) => ?_)
  · refine Wp.go rfl ?_
    refine Wp.ret rfl ?_
    exact ⟨rv0 (by rw [su10]; grind [whK, loK]), rfl⟩
  · iterate 2 refine Wp.go rfl ?_
    refine Wp.call rfl cqX12_top (sX12_top (hC) (rfl : _ = nI 1) (by omega)) (fun rv2 s2 hq2 => ?_)
    obtain ⟨rfl, hq2⟩ := hq2
    replace hq2 := hq2.symm
    subst hq2
    iterate 2 refine Wp.go rfl ?_
    refine Wp.neN (a := tpA c 1) (b := 1) rfl (rfl : _ = nI 1) (by first | omega | (have := (hnu (by omega)).2; omega) | (have := hn7 (by omega); omega)) (by first | omega | (have := (hnu (by omega)).2; omega) | (have := hn7 (by omega); omega)) (fun (h2 : ¬ tpA c 1 = 1) => ?_) (fun (h2 : tpA c 1 = 1) => ?_)
    · refine Wp.go rfl ?_
      refine Wp.ret rfl ?_
      exact ⟨rv0 (by rw [su10]; grind [whK, loK]), rfl⟩
    · iterate 2 refine Wp.go rfl ?_
      refine Wp.ret rfl ?_
      exact ⟨rv1 (by rw [su10]; grind [whK, loK]), rfl⟩
set_option maxRecDepth 100000 in
theorem sX12_wanted_11 {P : pT} {T : tT} {c : cS} {σ : mc_G} (hC : mHd c σ) (hP : cMP P σ) (hN : pNum P) (hY : pTy P T) (hO : tOk T) {x : Int32} {i : Nat} (hx : x = nI i) (hi : i < pn P) (hn : pn P ≤ 30) (hg : gC P T c) (hT : cMT T σ) (ho : opA P i = 11) (htk : tkA 11 ≤ c.1) : Wp miX12_isWanted 0 [(0, .inr (some 167)), (1, .inl x)] [] σ (fun rv σ' => rv = some (.inl (bI (suA T (opA P i) (nuN P i) c))) ∧ σ' = σ) := by
  have h6 := hC.2.1
  have hnu := fun q => hN.1 i q
  have hn7 := fun q => hN.2.1 i q
  have hty := fun q => hY.1 i q
  rw [ho] at hnu hn7 hty ⊢
  have htk : 4 ≤ c.1 := htk
  have m0 := mtp_lt hC 0
  have m1 := mtp_lt hC 1
  iterate 3 refine Wp.go rfl ?_
  refine Wp.go (if_pos ⟨rfl, rfl, (inE (n := 30) hx (by first | omega | (have := (hnu (by omega)).2; omega) | (have := hn7 (by omega); omega)))⟩) ?_
  iterate 4 refine Wp.go rfl ?_
  refine Wp.go (if_pos ⟨rfl, rfl, (inE (n := 30) hx (by first | omega | (have := (hnu (by omega)).2; omega) | (have := hn7 (by omega); omega)))⟩) ?_
  refine Wp.go rfl ?_
  refine Wp.swI 8 (rdE hx (by first | omega | (have := (hnu (by omega)).2; omega) | (have := hn7 (by omega); omega)) (((hP).op (by omega)).trans (congrArg nI ho))) (by decide) (by decide) (by decide) ?_
  iterate 2 refine Wp.go rfl ?_
  refine Wp.call rfl cqX12_isLongOnTop (sX12_isLongOnTop (hC) (rfl : _ = nI 0) (by omega)) (fun rv1 s1 hq1 => ?_)
  obtain ⟨rfl, hq1⟩ := hq1
  replace hq1 := hq1.symm
  subst hq1
  refine Wp.go rfl ?_
  refine Wp.beqE rfl (fun (h1 : (loK (tpA c (0 + 1)) (tpA c 0)) = false) => ?_) (fun (h1 : (loK (tpA c (0 + 1)) (tpA c 0)) = true) => ?_)
  · refine Wp.go rfl ?_
    refine Wp.ret rfl ?_
    exact ⟨rv0 (by rw [su11]; grind [whK, loK]), rfl⟩
  · iterate 2 refine Wp.go rfl ?_
    refine Wp.call rfl cqX12_isLongOnTop (sX12_isLongOnTop (hC) (rfl : _ = nI 2) (by omega)) (fun rv2 s2 hq2 => ?_)
    obtain ⟨rfl, hq2⟩ := hq2
    replace hq2 := hq2.symm
    subst hq2
    refine Wp.go rfl ?_
    refine Wp.beqE rfl (fun (h2 : (loK (tpA c (2 + 1)) (tpA c 2)) = false) => ?_) (fun (h2 : (loK (tpA c (2 + 1)) (tpA c 2)) = true) => ?_)
    · refine Wp.go rfl ?_
      refine Wp.ret rfl ?_
      exact ⟨rv0 (by rw [su11]; grind [whK, loK]), rfl⟩
    · iterate 2 refine Wp.go rfl ?_
      refine Wp.ret rfl ?_
      exact ⟨rv1 (by rw [su11]; grind [whK, loK]), rfl⟩
set_option maxRecDepth 100000 in
theorem sX12_wanted_12 {P : pT} {T : tT} {c : cS} {σ : mc_G} (hC : mHd c σ) (hP : cMP P σ) (hN : pNum P) (hY : pTy P T) (hO : tOk T) {x : Int32} {i : Nat} (hx : x = nI i) (hi : i < pn P) (hn : pn P ≤ 30) (hg : gC P T c) (hT : cMT T σ) (ho : opA P i = 12) (htk : tkA 12 ≤ c.1) : Wp miX12_isWanted 0 [(0, .inr (some 167)), (1, .inl x)] [] σ (fun rv σ' => rv = some (.inl (bI (suA T (opA P i) (nuN P i) c))) ∧ σ' = σ) := by
  have h6 := hC.2.1
  have hnu := fun q => hN.1 i q
  have hn7 := fun q => hN.2.1 i q
  have hty := fun q => hY.1 i q
  rw [ho] at hnu hn7 hty ⊢
  have htk : 0 ≤ c.1 := htk
  have m0 := mtp_lt hC 0
  have m1 := mtp_lt hC 1
  iterate 3 refine Wp.go rfl ?_
  refine Wp.go (if_pos ⟨rfl, rfl, (inE (n := 30) hx (by first | omega | (have := (hnu (by omega)).2; omega) | (have := hn7 (by omega); omega)))⟩) ?_
  iterate 4 refine Wp.go rfl ?_
  refine Wp.go (if_pos ⟨rfl, rfl, (inE (n := 30) hx (by first | omega | (have := (hnu (by omega)).2; omega) | (have := hn7 (by omega); omega)))⟩) ?_
  refine Wp.go rfl ?_
  refine Wp.swI 9 (rdE hx (by first | omega | (have := (hnu (by omega)).2; omega) | (have := hn7 (by omega); omega)) (((hP).op (by omega)).trans (congrArg nI ho))) (by decide) (by decide) (by decide) ?_
  refine Wp.go rfl ?_
  refine Wp.ret rfl ?_
  exact ⟨rv1 (by rw [su12]), rfl⟩
set_option maxRecDepth 100000 in
theorem sX12_wanted_13 {P : pT} {T : tT} {c : cS} {σ : mc_G} (hC : mHd c σ) (hP : cMP P σ) (hN : pNum P) (hY : pTy P T) (hO : tOk T) {x : Int32} {i : Nat} (hx : x = nI i) (hi : i < pn P) (hn : pn P ≤ 30) (hg : gC P T c) (hT : cMT T σ) (ho : opA P i = 13) (htk : tkA 13 ≤ c.1) : Wp miX12_isWanted 0 [(0, .inr (some 167)), (1, .inl x)] [] σ (fun rv σ' => rv = some (.inl (bI (suA T (opA P i) (nuN P i) c))) ∧ σ' = σ) := by
  have h6 := hC.2.1
  have hnu := fun q => hN.1 i q
  have hn7 := fun q => hN.2.1 i q
  have hty := fun q => hY.1 i q
  rw [ho] at hnu hn7 hty ⊢
  have htk : 1 ≤ c.1 := htk
  have m0 := mtp_lt hC 0
  have m1 := mtp_lt hC 1
  have hv := vK_tp hg.2.1 0
  have h23 : 200 ≤ tpA c 0 → tpA c 0 < 230 := fun q => by have := op_lt (vK_200 hO hv q); omega
  iterate 3 refine Wp.go rfl ?_
  refine Wp.go (if_pos ⟨rfl, rfl, (inE (n := 30) hx (by first | omega | (have := (hnu (by omega)).2; omega) | (have := hn7 (by omega); omega)))⟩) ?_
  iterate 4 refine Wp.go rfl ?_
  refine Wp.go (if_pos ⟨rfl, rfl, (inE (n := 30) hx (by first | omega | (have := (hnu (by omega)).2; omega) | (have := hn7 (by omega); omega)))⟩) ?_
  refine Wp.go rfl ?_
  refine Wp.swI 10 (rdE hx (by first | omega | (have := (hnu (by omega)).2; omega) | (have := hn7 (by omega); omega)) (((hP).op (by omega)).trans (congrArg nI ho))) (by decide) (by decide) (by decide) ?_
  iterate 2 refine Wp.go rfl ?_
  refine Wp.call rfl cqX12_top (sX12_top (hC) (rfl : _ = nI 0) (by omega)) (fun rv1 s1 hq1 => ?_)
  obtain ⟨rfl, hq1⟩ := hq1
  replace hq1 := hq1.symm
  subst hq1
  iterate 2 refine Wp.go rfl ?_
  refine Wp.ltN (a := tpA c 0) (b := 200) rfl (rfl : _ = nI 200) (by first | omega | (have := (hnu (by omega)).2; omega) | (have := hn7 (by omega); omega)) (by first | omega | (have := (hnu (by omega)).2; omega) | (have := hn7 (by omega); omega)) (fun (h1 : tpA c 0 < 200) => ?_) (fun (h1 : ¬ tpA c 0 < 200) => ?_)
  · refine Wp.go rfl ?_
    refine Wp.ret rfl ?_
    exact ⟨rv0 (by rw [su13]; simp [bgK] at *; omega), rfl⟩
  · iterate 2 refine Wp.go rfl ?_
    refine Wp.ret rfl ?_
    exact ⟨rv1 (by rw [su13]; simp [bgK] at *; omega), rfl⟩
set_option maxRecDepth 100000 in
theorem sX12_wanted_14 {P : pT} {T : tT} {c : cS} {σ : mc_G} (hC : mHd c σ) (hP : cMP P σ) (hN : pNum P) (hY : pTy P T) (hO : tOk T) {x : Int32} {i : Nat} (hx : x = nI i) (hi : i < pn P) (hn : pn P ≤ 30) (hg : gC P T c) (hT : cMT T σ) (ho : opA P i = 14) (htk : tkA 14 ≤ c.1) : Wp miX12_isWanted 0 [(0, .inr (some 167)), (1, .inl x)] [] σ (fun rv σ' => rv = some (.inl (bI (suA T (opA P i) (nuN P i) c))) ∧ σ' = σ) := by
  have h6 := hC.2.1
  have hnu := fun q => hN.1 i q
  have hn7 := fun q => hN.2.1 i q
  have hty := fun q => hY.1 i q
  rw [ho] at hnu hn7 hty ⊢
  have htk : 1 ≤ c.1 := htk
  have m0 := mtp_lt hC 0
  have m1 := mtp_lt hC 1
  iterate 3 refine Wp.go rfl ?_
  refine Wp.go (if_pos ⟨rfl, rfl, (inE (n := 30) hx (by first | omega | (have := (hnu (by omega)).2; omega) | (have := hn7 (by omega); omega)))⟩) ?_
  iterate 4 refine Wp.go rfl ?_
  refine Wp.go (if_pos ⟨rfl, rfl, (inE (n := 30) hx (by first | omega | (have := (hnu (by omega)).2; omega) | (have := hn7 (by omega); omega)))⟩) ?_
  refine Wp.go rfl ?_
  refine Wp.swI 11 (rdE hx (by first | omega | (have := (hnu (by omega)).2; omega) | (have := hn7 (by omega); omega)) (((hP).op (by omega)).trans (congrArg nI ho))) (by decide) (by decide) (by decide) ?_
  iterate 2 refine Wp.go rfl ?_
  refine Wp.call rfl cqX12_top (sX12_top (hC) (rfl : _ = nI 0) (by omega)) (fun rv1 s1 hq1 => ?_)
  obtain ⟨rfl, hq1⟩ := hq1
  replace hq1 := hq1.symm
  subst hq1
  refine Wp.call rfl cqX12_isThingOrNull (sX12_isThingOrNull rfl (by first | omega | (have := (hnu (by omega)).2; omega) | (have := hn7 (by omega); omega))) (fun rv2 s2 hq2 => ?_)
  obtain ⟨rfl, hq2⟩ := hq2
  replace hq2 := hq2.symm
  subst hq2
  refine Wp.retB (b := r8K (tpA c 0)) rfl rfl rfl ?_
  exact ⟨rvB rfl (by rw [su14]; exact r8e hO (vK_tp hg.2.1 0)), rfl⟩
set_option maxRecDepth 100000 in
theorem sX12_wanted_15 {P : pT} {T : tT} {c : cS} {σ : mc_G} (hC : mHd c σ) (hP : cMP P σ) (hN : pNum P) (hY : pTy P T) (hO : tOk T) {x : Int32} {i : Nat} (hx : x = nI i) (hi : i < pn P) (hn : pn P ≤ 30) (hg : gC P T c) (hT : cMT T σ) (ho : opA P i = 15) (htk : tkA 15 ≤ c.1) : Wp miX12_isWanted 0 [(0, .inr (some 167)), (1, .inl x)] [] σ (fun rv σ' => rv = some (.inl (bI (suA T (opA P i) (nuN P i) c))) ∧ σ' = σ) := by
  have h6 := hC.2.1
  have hnu := fun q => hN.1 i q
  have hn7 := fun q => hN.2.1 i q
  have hty := fun q => hY.1 i q
  rw [ho] at hnu hn7 hty ⊢
  have htk : 1 ≤ c.1 := htk
  have m0 := mtp_lt hC 0
  have m1 := mtp_lt hC 1
  iterate 3 refine Wp.go rfl ?_
  refine Wp.go (if_pos ⟨rfl, rfl, (inE (n := 30) hx (by first | omega | (have := (hnu (by omega)).2; omega) | (have := hn7 (by omega); omega)))⟩) ?_
  iterate 4 refine Wp.go rfl ?_
  refine Wp.go (if_pos ⟨rfl, rfl, (inE (n := 30) hx (by first | omega | (have := (hnu (by omega)).2; omega) | (have := hn7 (by omega); omega)))⟩) ?_
  refine Wp.go rfl ?_
  refine Wp.swI 12 (rdE hx (by first | omega | (have := (hnu (by omega)).2; omega) | (have := hn7 (by omega); omega)) (((hP).op (by omega)).trans (congrArg nI ho))) (by decide) (by decide) (by decide) ?_
  iterate 3 refine Wp.go rfl ?_
  refine Wp.call rfl cqX12_top (sX12_top (hC) (rfl : _ = nI 0) (by omega)) (fun rv1 s1 hq1 => ?_)
  obtain ⟨rfl, hq1⟩ := hq1
  replace hq1 := hq1.symm
  subst hq1
  iterate 3 refine Wp.go rfl ?_
  refine Wp.call rfl cqX12_goesFor (sX12_goesFor hT hO rfl (by omega) (nE_add (rfl : _ = nI 100) (rdE hx (by first | omega | (have := (hnu (by omega)).2; omega) | (have := hn7 (by omega); omega)) (((hP).nu (by omega)).trans (hnu (by omega)).1))) (by omega) (vK_8 hO (vK_tp hg.2.1 0)) (fun _ => by have := (hty (by omega)).2; omega)) (fun rv2 s2 hq2 => ?_)
  obtain ⟨rfl, hq2⟩ := hq2
  replace hq2 := hq2.symm
  subst hq2
  refine Wp.retB (b := gfA T (tpA c 0) (100 + (nuN P i))) rfl rfl rfl ?_
  exact ⟨rvB rfl (by rw [su15]; exact su15e hO _ (hty (by decide)).2), rfl⟩
set_option maxRecDepth 100000 in
theorem sX12_wanted_16 {P : pT} {T : tT} {c : cS} {σ : mc_G} (hC : mHd c σ) (hP : cMP P σ) (hN : pNum P) (hY : pTy P T) (hO : tOk T) {x : Int32} {i : Nat} (hx : x = nI i) (hi : i < pn P) (hn : pn P ≤ 30) (hg : gC P T c) (hT : cMT T σ) (ho : opA P i = 16) (htk : tkA 16 ≤ c.1) : Wp miX12_isWanted 0 [(0, .inr (some 167)), (1, .inl x)] [] σ (fun rv σ' => rv = some (.inl (bI (suA T (opA P i) (nuN P i) c))) ∧ σ' = σ) := by
  have h6 := hC.2.1
  have hnu := fun q => hN.1 i q
  have hn7 := fun q => hN.2.1 i q
  have hty := fun q => hY.1 i q
  rw [ho] at hnu hn7 hty ⊢
  have htk : 1 ≤ c.1 := htk
  have m0 := mtp_lt hC 0
  have m1 := mtp_lt hC 1
  iterate 3 refine Wp.go rfl ?_
  refine Wp.go (if_pos ⟨rfl, rfl, (inE (n := 30) hx (by first | omega | (have := (hnu (by omega)).2; omega) | (have := hn7 (by omega); omega)))⟩) ?_
  iterate 4 refine Wp.go rfl ?_
  refine Wp.go (if_pos ⟨rfl, rfl, (inE (n := 30) hx (by first | omega | (have := (hnu (by omega)).2; omega) | (have := hn7 (by omega); omega)))⟩) ?_
  refine Wp.go rfl ?_
  refine Wp.swI 13 (rdE hx (by first | omega | (have := (hnu (by omega)).2; omega) | (have := hn7 (by omega); omega)) (((hP).op (by omega)).trans (congrArg nI ho))) (by decide) (by decide) (by decide) ?_
  iterate 2 refine Wp.go rfl ?_
  refine Wp.call rfl cqX12_top (sX12_top (hC) (rfl : _ = nI 0) (by omega)) (fun rv1 s1 hq1 => ?_)
  obtain ⟨rfl, hq1⟩ := hq1
  replace hq1 := hq1.symm
  subst hq1
  iterate 2 refine Wp.go rfl ?_
  refine Wp.neN (a := tpA c 0) (b := 1) rfl (rfl : _ = nI 1) (by first | omega | (have := (hnu (by omega)).2; omega) | (have := hn7 (by omega); omega)) (by first | omega | (have := (hnu (by omega)).2; omega) | (have := hn7 (by omega); omega)) (fun (h1 : ¬ tpA c 0 = 1) => ?_) (fun (h1 : tpA c 0 = 1) => ?_)
  · refine Wp.go rfl ?_
    refine Wp.ret rfl ?_
    exact ⟨rv0 (by rw [su16]; grind [whK, loK]), rfl⟩
  · iterate 2 refine Wp.go rfl ?_
    refine Wp.ret rfl ?_
    exact ⟨rv1 (by rw [su16]; grind [whK, loK]), rfl⟩
set_option maxRecDepth 100000 in
theorem sX12_wanted_17 {P : pT} {T : tT} {c : cS} {σ : mc_G} (hC : mHd c σ) (hP : cMP P σ) (hN : pNum P) (hY : pTy P T) (hO : tOk T) {x : Int32} {i : Nat} (hx : x = nI i) (hi : i < pn P) (hn : pn P ≤ 30) (hg : gC P T c) (hT : cMT T σ) (ho : opA P i = 17) (htk : tkA 17 ≤ c.1) : Wp miX12_isWanted 0 [(0, .inr (some 167)), (1, .inl x)] [] σ (fun rv σ' => rv = some (.inl (bI (suA T (opA P i) (nuN P i) c))) ∧ σ' = σ) := by
  have h6 := hC.2.1
  have hnu := fun q => hN.1 i q
  have hn7 := fun q => hN.2.1 i q
  have hty := fun q => hY.1 i q
  rw [ho] at hnu hn7 hty ⊢
  have htk : 2 ≤ c.1 := htk
  have m0 := mtp_lt hC 0
  have m1 := mtp_lt hC 1
  iterate 3 refine Wp.go rfl ?_
  refine Wp.go (if_pos ⟨rfl, rfl, (inE (n := 30) hx (by first | omega | (have := (hnu (by omega)).2; omega) | (have := hn7 (by omega); omega)))⟩) ?_
  iterate 4 refine Wp.go rfl ?_
  refine Wp.go (if_pos ⟨rfl, rfl, (inE (n := 30) hx (by first | omega | (have := (hnu (by omega)).2; omega) | (have := hn7 (by omega); omega)))⟩) ?_
  refine Wp.go rfl ?_
  refine Wp.swI 14 (rdE hx (by first | omega | (have := (hnu (by omega)).2; omega) | (have := hn7 (by omega); omega)) (((hP).op (by omega)).trans (congrArg nI ho))) (by decide) (by decide) (by decide) ?_
  iterate 2 refine Wp.go rfl ?_
  refine Wp.call rfl cqX12_top (sX12_top (hC) (rfl : _ = nI 0) (by omega)) (fun rv1 s1 hq1 => ?_)
  obtain ⟨rfl, hq1⟩ := hq1
  replace hq1 := hq1.symm
  subst hq1
  refine Wp.call rfl cqX12_isThingOrNull (sX12_isThingOrNull rfl (by first | omega | (have := (hnu (by omega)).2; omega) | (have := hn7 (by omega); omega))) (fun rv2 s2 hq2 => ?_)
  obtain ⟨rfl, hq2⟩ := hq2
  replace hq2 := hq2.symm
  subst hq2
  refine Wp.go rfl ?_
  refine Wp.beqE rfl (fun (h1 : (r8K (tpA c 0)) = false) => ?_) (fun (h1 : (r8K (tpA c 0)) = true) => ?_)
  · refine Wp.go rfl ?_
    refine Wp.ret rfl ?_
    exact ⟨rv0 (by rw [su17]; rw [← r8e hO (vK_tp hg.2.1 0), ← r8e hO (vK_tp hg.2.1 1)]; simp_all), rfl⟩
  · iterate 2 refine Wp.go rfl ?_
    refine Wp.call rfl cqX12_top (sX12_top (hC) (rfl : _ = nI 1) (by omega)) (fun rv3 s3 hq3 => ?_)
    obtain ⟨rfl, hq3⟩ := hq3
    replace hq3 := hq3.symm
    subst hq3
    refine Wp.call rfl cqX12_isThingOrNull (sX12_isThingOrNull rfl (by first | omega | (have := (hnu (by omega)).2; omega) | (have := hn7 (by omega); omega))) (fun rv4 s4 hq4 => ?_)
    obtain ⟨rfl, hq4⟩ := hq4
    replace hq4 := hq4.symm
    subst hq4
    refine Wp.go rfl ?_
    refine Wp.beqE rfl (fun (h2 : (r8K (tpA c 1)) = false) => ?_) (fun (h2 : (r8K (tpA c 1)) = true) => ?_)
    · refine Wp.go rfl ?_
      refine Wp.ret rfl ?_
      exact ⟨rv0 (by rw [su17]; rw [← r8e hO (vK_tp hg.2.1 0), ← r8e hO (vK_tp hg.2.1 1)]; simp_all), rfl⟩
    · iterate 2 refine Wp.go rfl ?_
      refine Wp.ret rfl ?_
      exact ⟨rv1 (by rw [su17]; rw [← r8e hO (vK_tp hg.2.1 0), ← r8e hO (vK_tp hg.2.1 1)]; simp_all), rfl⟩
set_option maxRecDepth 100000 in
theorem sX12_wanted_18 {P : pT} {T : tT} {c : cS} {σ : mc_G} (hC : mHd c σ) (hP : cMP P σ) (hN : pNum P) (hY : pTy P T) (hO : tOk T) {x : Int32} {i : Nat} (hx : x = nI i) (hi : i < pn P) (hn : pn P ≤ 30) (hg : gC P T c) (hT : cMT T σ) (ho : opA P i = 18) (htk : tkA 18 ≤ c.1) : Wp miX12_isWanted 0 [(0, .inr (some 167)), (1, .inl x)] [] σ (fun rv σ' => rv = some (.inl (bI (suA T (opA P i) (nuN P i) c))) ∧ σ' = σ) := by
  have h6 := hC.2.1
  have hnu := fun q => hN.1 i q
  have hn7 := fun q => hN.2.1 i q
  have hty := fun q => hY.1 i q
  rw [ho] at hnu hn7 hty ⊢
  have htk : 0 ≤ c.1 := htk
  have m0 := mtp_lt hC 0
  have m1 := mtp_lt hC 1
  iterate 3 refine Wp.go rfl ?_
  refine Wp.go (if_pos ⟨rfl, rfl, (inE (n := 30) hx (by first | omega | (have := (hnu (by omega)).2; omega) | (have := hn7 (by omega); omega)))⟩) ?_
  iterate 4 refine Wp.go rfl ?_
  refine Wp.go (if_pos ⟨rfl, rfl, (inE (n := 30) hx (by first | omega | (have := (hnu (by omega)).2; omega) | (have := hn7 (by omega); omega)))⟩) ?_
  refine Wp.go rfl ?_
  refine Wp.swI 15 (rdE hx (by first | omega | (have := (hnu (by omega)).2; omega) | (have := hn7 (by omega); omega)) (((hP).op (by omega)).trans (congrArg nI ho))) (by decide) (by decide) (by decide) ?_
  refine Wp.go rfl ?_
  refine Wp.ret rfl ?_
  exact ⟨rv1 (by rw [su18]), rfl⟩
set_option maxRecDepth 100000 in
theorem sX12_wanted_19 {P : pT} {T : tT} {c : cS} {σ : mc_G} (hC : mHd c σ) (hP : cMP P σ) (hN : pNum P) (hY : pTy P T) (hO : tOk T) {x : Int32} {i : Nat} (hx : x = nI i) (hi : i < pn P) (hn : pn P ≤ 30) (hg : gC P T c) (hT : cMT T σ) (ho : opA P i = 19) (htk : tkA 19 ≤ c.1) : Wp miX12_isWanted 0 [(0, .inr (some 167)), (1, .inl x)] [] σ (fun rv σ' => rv = some (.inl (bI (suA T (opA P i) (nuN P i) c))) ∧ σ' = σ) := by
  have h6 := hC.2.1
  have hnu := fun q => hN.1 i q
  have hn7 := fun q => hN.2.1 i q
  have hty := fun q => hY.1 i q
  rw [ho] at hnu hn7 hty ⊢
  have htk : 0 ≤ c.1 := htk
  have m0 := mtp_lt hC 0
  have m1 := mtp_lt hC 1
  iterate 3 refine Wp.go rfl ?_
  refine Wp.go (if_pos ⟨rfl, rfl, (inE (n := 30) hx (by first | omega | (have := (hnu (by omega)).2; omega) | (have := hn7 (by omega); omega)))⟩) ?_
  iterate 4 refine Wp.go rfl ?_
  refine Wp.go (if_pos ⟨rfl, rfl, (inE (n := 30) hx (by first | omega | (have := (hnu (by omega)).2; omega) | (have := hn7 (by omega); omega)))⟩) ?_
  refine Wp.go rfl ?_
  refine Wp.swI 16 (rdE hx (by first | omega | (have := (hnu (by omega)).2; omega) | (have := hn7 (by omega); omega)) (((hP).op (by omega)).trans (congrArg nI ho))) (by decide) (by decide) (by decide) ?_
  refine Wp.go rfl ?_
  refine Wp.ret rfl ?_
  exact ⟨rv1 (by rw [su19]), rfl⟩
set_option maxRecDepth 100000 in
theorem sX12_wanted_20 {P : pT} {T : tT} {c : cS} {σ : mc_G} (hC : mHd c σ) (hP : cMP P σ) (hN : pNum P) (hY : pTy P T) (hO : tOk T) {x : Int32} {i : Nat} (hx : x = nI i) (hi : i < pn P) (hn : pn P ≤ 30) (hg : gC P T c) (hT : cMT T σ) (ho : opA P i = 20) (htk : tkA 20 ≤ c.1) : Wp miX12_isWanted 0 [(0, .inr (some 167)), (1, .inl x)] [] σ (fun rv σ' => rv = some (.inl (bI (suA T (opA P i) (nuN P i) c))) ∧ σ' = σ) := by
  have h6 := hC.2.1
  have hnu := fun q => hN.1 i q
  have hn7 := fun q => hN.2.1 i q
  have hty := fun q => hY.1 i q
  rw [ho] at hnu hn7 hty ⊢
  have htk : 1 ≤ c.1 := htk
  have m0 := mtp_lt hC 0
  have m1 := mtp_lt hC 1
  iterate 3 refine Wp.go rfl ?_
  refine Wp.go (if_pos ⟨rfl, rfl, (inE (n := 30) hx (by first | omega | (have := (hnu (by omega)).2; omega) | (have := hn7 (by omega); omega)))⟩) ?_
  iterate 4 refine Wp.go rfl ?_
  refine Wp.go (if_pos ⟨rfl, rfl, (inE (n := 30) hx (by first | omega | (have := (hnu (by omega)).2; omega) | (have := hn7 (by omega); omega)))⟩) ?_
  refine Wp.go rfl ?_
  refine Wp.swI 17 (rdE hx (by first | omega | (have := (hnu (by omega)).2; omega) | (have := hn7 (by omega); omega)) (((hP).op (by omega)).trans (congrArg nI ho))) (by decide) (by decide) (by decide) ?_
  iterate 2 refine Wp.go rfl ?_
  refine Wp.call rfl cqX12_top (sX12_top (hC) (rfl : _ = nI 0) (by omega)) (fun rv1 s1 hq1 => ?_)
  obtain ⟨rfl, hq1⟩ := hq1
  replace hq1 := hq1.symm
  subst hq1
  refine Wp.call rfl cqX12_isThingOrNull (sX12_isThingOrNull rfl (by first | omega | (have := (hnu (by omega)).2; omega) | (have := hn7 (by omega); omega))) (fun rv2 s2 hq2 => ?_)
  obtain ⟨rfl, hq2⟩ := hq2
  replace hq2 := hq2.symm
  subst hq2
  refine Wp.retB (b := r8K (tpA c 0)) rfl rfl rfl ?_
  exact ⟨rvB rfl (by rw [su20]; exact r8e hO (vK_tp hg.2.1 0)), rfl⟩
set_option maxRecDepth 100000 in
theorem sX12_isWanted {P : pT} {T : tT} {c : cS} {σ : mc_G} (hC : mHd c σ) (hP : cMP P σ) (hN : pNum P) (hY : pTy P T) (hO : tOk T) {x : Int32} {i : Nat} (hx : x = nI i) (hi : i < pn P) (hn : pn P ≤ 30) (hg : gC P T c) (hT : cMT T σ) (h20 : opA P i ≤ 20) (htk : tkA (opA P i) ≤ c.1) : Wp miX12_isWanted 0 [(0, .inr (some 167)), (1, .inl x)] [] σ (fun rv σ' => rv = some (.inl (bI (suA T (opA P i) (nuN P i) c))) ∧ σ' = σ) := by
  have hc : opA P i = 0 ∨ opA P i = 1 ∨ opA P i = 2 ∨ opA P i = 3 ∨ opA P i = 4 ∨ opA P i = 5 ∨ opA P i = 6 ∨ opA P i = 7 ∨ opA P i = 8 ∨ opA P i = 9 ∨ opA P i = 10 ∨ opA P i = 11 ∨ opA P i = 12 ∨ opA P i = 13 ∨ opA P i = 14 ∨ opA P i = 15 ∨ opA P i = 16 ∨ opA P i = 17 ∨ opA P i = 18 ∨ opA P i = 19 ∨ opA P i = 20 := by omega
  rcases hc with ho | ho | ho | ho | ho | ho | ho | ho | ho | ho | ho | ho | ho | ho | ho | ho | ho | ho | ho | ho | ho
  · exact sX12_wanted_0 hC hP hN hY hO hx hi hn hg hT ho (by rw [← ho]; exact htk)
  · exact sX12_wanted_1 hC hP hN hY hO hx hi hn hg hT ho (by rw [← ho]; exact htk)
  · exact sX12_wanted_2 hC hP hN hY hO hx hi hn hg hT ho (by rw [← ho]; exact htk)
  · exact sX12_wanted_3 hC hP hN hY hO hx hi hn hg hT ho (by rw [← ho]; exact htk)
  · exact sX12_wanted_4 hC hP hN hY hO hx hi hn hg hT ho (by rw [← ho]; exact htk)
  · exact sX12_wanted_5 hC hP hN hY hO hx hi hn hg hT ho (by rw [← ho]; exact htk)
  · exact sX12_wanted_6 hC hP hN hY hO hx hi hn hg hT ho (by rw [← ho]; exact htk)
  · exact sX12_wanted_7 hC hP hN hY hO hx hi hn hg hT ho (by rw [← ho]; exact htk)
  · exact sX12_wanted_8 hC hP hN hY hO hx hi hn hg hT ho (by rw [← ho]; exact htk)
  · exact sX12_wanted_9 hC hP hN hY hO hx hi hn hg hT ho (by rw [← ho]; exact htk)
  · exact sX12_wanted_10 hC hP hN hY hO hx hi hn hg hT ho (by rw [← ho]; exact htk)
  · exact sX12_wanted_11 hC hP hN hY hO hx hi hn hg hT ho (by rw [← ho]; exact htk)
  · exact sX12_wanted_12 hC hP hN hY hO hx hi hn hg hT ho (by rw [← ho]; exact htk)
  · exact sX12_wanted_13 hC hP hN hY hO hx hi hn hg hT ho (by rw [← ho]; exact htk)
  · exact sX12_wanted_14 hC hP hN hY hO hx hi hn hg hT ho (by rw [← ho]; exact htk)
  · exact sX12_wanted_15 hC hP hN hY hO hx hi hn hg hT ho (by rw [← ho]; exact htk)
  · exact sX12_wanted_16 hC hP hN hY hO hx hi hn hg hT ho (by rw [← ho]; exact htk)
  · exact sX12_wanted_17 hC hP hN hY hO hx hi hn hg hT ho (by rw [← ho]; exact htk)
  · exact sX12_wanted_18 hC hP hN hY hO hx hi hn hg hT ho (by rw [← ho]; exact htk)
  · exact sX12_wanted_19 hC hP hN hY hO hx hi hn hg hT ho (by rw [← ho]; exact htk)
  · exact sX12_wanted_20 hC hP hN hY hO hx hi hn hg hT ho (by rw [← ho]; exact htk)

def pcA (m : Nat) : Nat := (List.range 7).countP (fun s => m.testBit s)
set_option maxRecDepth 100000 in
theorem sJ6_bitCount {σ : mc_G} {x : Int32} {m : Nat} (hx : x = nI m) (hm : m < 128) : Wp miJ6_bitCount_0f7a4 0 [(0, .inl x)] [] σ (fun rv σ' => rv = some (.inl (nI (pcA m))) ∧ σ' = σ) := by
  subst hx
  repeat (refine Wp.go rfl ?_)
  refine Wp.ret rfl ?_
  refine ⟨?_, rfl⟩
  revert hm
  revert m
  clear σ
  decide +kernel
def loA (P : pT) (k : Nat) : Bool := (goA P k && !decide (k + 1 < pn P)) || (juA P k && !decide (nuN P k < pn P))
def hlS (P : pT) (k : Nat) (b : Bool) (j : Nat) : Bool := b || (cvA P j k && !decide (qa P j < pn P))
def hlA (P : pT) (k : Nat) : Bool := foR (hlS P k) (qn P) 0 false
def ffA (P : pT) (Z : zS) (k : Nat) (p : Bool × Bool) (s : Nat) : Bool × Bool := (p.1 || ((snA (pn P) Z k).testBit s && fiA (opA P k) s), p.2 && (!(snA (pn P) Z k).testBit s || fiA (opA P k) s))
def fpA (P : pT) (Z : zS) (k : Nat) : Bool × Bool := foR (ffA P Z k) 7 0 (false, true)
/-- the FAULT of an instruction by sizes -/
def faA (P : pT) (Z : zS) (k : Nat) : Nat := if ((fpA P Z k).1 = true ∧ loA P k = true) ∨ (¬ snA (pn P) Z k = 0 ∧ hlA P k = true) then 1 else if 1 < pcA (snA (pn P) Z k) then 2 else if (fpA P Z k).2 = true then 0 else 3
def lfA (P : pT) (Z : zS) : Nat → Nat → Nat × Nat → Nat × Nat
  | 0, _, p => p
  | n + 1, i, p => if p.1 = 0 then lfA P Z n (i + 1) (faA P Z i, i) else p
theorem pcA_le (m : Nat) : pcA m ≤ 7 := by unfold pcA; exact Nat.le_trans List.countP_le_length (by simp)
theorem faA_le (P : pT) (Z : zS) (k : Nat) : faA P Z k ≤ 3 := by unfold faA; split; decide; split; decide; split; decide; decide
set_option maxRecDepth 100000 in
theorem sX6_leadsOut {P : pT} (hO1 : pn P ≤ 30 ∧ qn P ≤ 4) (hp20 : ∀ k, k < pn P → po P k ≤ 20) (hB : ∀ j, j < qn P → qf P j < qt P j ∧ qt P j ≤ 30 ∧ qa P j < 30 ∧ qk P j < 8) (hJ : ∀ k, k < 30 → juA P k = true → nuA P k = nI (nuN P k) ∧ nuN P k < 30) {σ : mc_G} (hP : cCode P σ) {x : Int32} {k : Nat} (hx : x = nI k) (hk : k < 30) : Wp miX6_leadsOut 0 [(0, .inr (some 13)), (1, .inl x)] [] σ (fun rv σ' => rv = some (.inl (bI (loA P k))) ∧ σ' = σ) := by
  iterate 3 refine Wp.go rfl ?_
  refine Wp.call rfl cqX1_goesOn (sX1_goesOn (σ := σ) hP hO1 hx (by omega) hp20) (fun rv1 s1 hq1 => ?_)
  obtain ⟨rfl, hq1⟩ := hq1
  replace hq1 := hq1.symm
  subst hq1
  refine Wp.go rfl ?_
  refine Wp.beqE rfl (fun (h1 : (goA P k) = false) => ?_) (fun (h1 : (goA P k) = true) => ?_)
  · iterate 3 refine Wp.go rfl ?_
    refine Wp.call rfl cqX1_jumps (sX1_jumps (σ := σ) hP hO1 hx (by omega) hp20) (fun rv2 s2 hq2 => ?_)
    obtain ⟨rfl, hq2⟩ := hq2
    replace hq2 := hq2.symm
    subst hq2
    refine Wp.go rfl ?_
    refine Wp.beqE rfl (fun (h2 : (juA P k) = false) => ?_) (fun (h2 : (juA P k) = true) => ?_)
    · refine Wp.go rfl ?_
      refine Wp.ret rfl ?_
      exact ⟨rv0 (by simp [loA, *]), rfl⟩
    · iterate 5 refine Wp.go rfl ?_
      refine Wp.call rfl cqX1_numberAt (sX1_numberAt (σ := σ) hP hO1 hx (by omega)) (fun rv3 s3 hq3 => ?_)
      obtain ⟨rfl, hq3⟩ := hq3
      replace hq3 := hq3.symm
      subst hq3
      refine Wp.call rfl cqX1_has (sX1_has (σ := σ) hP hO1 (hJ k (by omega) h2).1 (by have := (hJ k (by omega) h2).2; omega)) (fun rv4 s4 hq4 => ?_)
      obtain ⟨rfl, hq4⟩ := hq4
      replace hq4 := hq4.symm
      subst hq4
      refine Wp.go rfl ?_
      refine Wp.bneD (p := nuN P k < pn P) rfl (fun (h3 : nuN P k < pn P) => ?_) (fun (h3 : ¬ (nuN P k < pn P)) => ?_)
      · refine Wp.go rfl ?_
        refine Wp.ret rfl ?_
        exact ⟨rv0 (by simp [loA, *]), rfl⟩
      · iterate 2 refine Wp.go rfl ?_
        refine Wp.ret rfl ?_
        exact ⟨rv1 (by simp [loA, *]), rfl⟩
  · iterate 5 refine Wp.go rfl ?_
    refine Wp.call rfl cqX1_has (sX1_has (σ := σ) hP hO1 (nE_add hx (rfl : _ = nI 1)) (by omega)) (fun rv5 s5 hq5 => ?_)
    obtain ⟨rfl, hq5⟩ := hq5
    replace hq5 := hq5.symm
    subst hq5
    refine Wp.go rfl ?_
    refine Wp.beqD (p := k + 1 < pn P) rfl (fun (h4 : ¬ (k + 1 < pn P)) => ?_) (fun (h4 : k + 1 < pn P) => ?_)
    · iterate 2 refine Wp.go rfl ?_
      refine Wp.ret rfl ?_
      exact ⟨rv1 (by simp [loA, *]), rfl⟩
    · iterate 3 refine Wp.go rfl ?_
      refine Wp.call rfl cqX1_jumps (sX1_jumps (σ := σ) hP hO1 hx (by omega) hp20) (fun rv6 s6 hq6 => ?_)
      obtain ⟨rfl, hq6⟩ := hq6
      replace hq6 := hq6.symm
      subst hq6
      refine Wp.go rfl ?_
      refine Wp.beqE rfl (fun (h5 : (juA P k) = false) => ?_) (fun (h5 : (juA P k) = true) => ?_)
      · refine Wp.go rfl ?_
        refine Wp.ret rfl ?_
        exact ⟨rv0 (by simp [loA, *]), rfl⟩
      · iterate 5 refine Wp.go rfl ?_
        refine Wp.call rfl cqX1_numberAt (sX1_numberAt (σ := σ) hP hO1 hx (by omega)) (fun rv7 s7 hq7 => ?_)
        obtain ⟨rfl, hq7⟩ := hq7
        replace hq7 := hq7.symm
        subst hq7
        refine Wp.call rfl cqX1_has (sX1_has (σ := σ) hP hO1 (hJ k (by omega) h5).1 (by have := (hJ k (by omega) h5).2; omega)) (fun rv8 s8 hq8 => ?_)
        obtain ⟨rfl, hq8⟩ := hq8
        replace hq8 := hq8.symm
        subst hq8
        refine Wp.go rfl ?_
        refine Wp.bneD (p := nuN P k < pn P) rfl (fun (h6 : nuN P k < pn P) => ?_) (fun (h6 : ¬ (nuN P k < pn P)) => ?_)
        · refine Wp.go rfl ?_
          refine Wp.ret rfl ?_
          exact ⟨rv0 (by simp [loA, *]), rfl⟩
        · iterate 2 refine Wp.go rfl ?_
          refine Wp.ret rfl ?_
          exact ⟨rv1 (by simp [loA, *]), rfl⟩
set_option maxRecDepth 100000 in
theorem lX6_hlo {P : pT} (hO1 : pn P ≤ 30 ∧ qn P ≤ 4) (hp20 : ∀ k, k < pn P → po P k ≤ 20) (hB : ∀ j, j < qn P → qf P j < qt P j ∧ qt P j ≤ 30 ∧ qa P j < 30 ∧ qk P j < 8) (hJ : ∀ k, k < 30 → juA P k = true → nuA P k = nI (nuN P k) ∧ nuN P k < 30) {σ : mc_G} (hP : cCode P σ) {x : Int32} {k : Nat} (hx : x = nI k) (hk : k < 30) : ∀ (n i : Nat) (x3 : Int32), x3 = nI i → i + n = qn P → ∀ (g : Bool) (x2 : Int32), x2 = bI g → Wp miX6_handlerLeadsOut 4 [(0, .inr (some 13)), (1, .inl x), (2, .inl x2), (3, .inl x3)] [] σ (fun rv σ' => rv = some (.inl (bI (foR (hlS P k) n i g))) ∧ σ' = σ) := by
  intro n
  induction n with
  | zero =>
    intro i x3 hz3 hin g x2 hz2
    iterate 3 refine Wp.go rfl ?_
    refine Wp.call rfl cqX1_handlers (sX1_handlers (σ := σ) hP hO1) (fun rv1 s1 hq1 => ?_)
    obtain ⟨rfl, hq1⟩ := hq1
    replace hq1 := hq1.symm
    subst hq1
    refine Wp.go rfl ?_
    refine Wp.geN (a := i) (b := qn P) hz3 rfl (by omega) (by omega) (fun (h1 : ¬ i < qn P) => ?_) (fun (h1 : i < qn P) => ?_)
    · refine Wp.go rfl ?_
      refine Wp.ret (if_pos (Or.inr (bE_01 hz2))) ?_
      exact ⟨rvB hz2 rfl, rfl⟩
    · exfalso; omega
  | succ n ih =>
    intro i x3 hz3 hin g x2 hz2
    iterate 3 refine Wp.go rfl ?_
    refine Wp.call rfl cqX1_handlers (sX1_handlers (σ := σ) hP hO1) (fun rv1 s1 hq1 => ?_)
    obtain ⟨rfl, hq1⟩ := hq1
    replace hq1 := hq1.symm
    subst hq1
    refine Wp.go rfl ?_
    refine Wp.geN (a := i) (b := qn P) hz3 rfl (by omega) (by omega) (fun (h1 : ¬ i < qn P) => ?_) (fun (h1 : i < qn P) => ?_)
    · refine Wp.go rfl ?_
      refine Wp.ret (if_pos (Or.inr (bE_01 hz2))) ?_
      first | (exfalso; omega) | exact ⟨rvB hz2 rfl, rfl⟩
    · iterate 5 refine Wp.go rfl ?_
      refine Wp.call rfl cqX1_covers (sX1_covers (σ := σ) hP hO1 hz3 (by omega) hx (by omega) hB) (fun rv2 s2 hq2 => ?_)
      obtain ⟨rfl, hq2⟩ := hq2
      replace hq2 := hq2.symm
      subst hq2
      refine Wp.go rfl ?_
      refine Wp.beqE rfl (fun (h2 : (cvA P i k) = false) => ?_) (fun (h2 : (cvA P i k) = true) => ?_)
      · iterate 5 refine Wp.go rfl ?_
        have e1 : foR (hlS P k) (n + 1) i g = foR (hlS P k) n (i + 1) (g || false) := by show foR (hlS P k) n (i + 1) (hlS P k g i) = _; congr 1; simp [hlS, *]
        rw [e1]
        refine Wp.lo (lo := [(0, .inr (some 13)), (1, .inl _), (2, .inl _), (3, .inl _)]) ⟨rfl, rfl, rfl, rfl, trivial⟩ ?_
        exact ih (i + 1) _ (nE_add hz3 (rfl : _ = nI 1)) (by omega) _ _ (orE hz2 (rfl : _ = bI false))
      · iterate 5 refine Wp.go rfl ?_
        refine Wp.call rfl cqX1_startOf (sX1_startOf (σ := σ) hP hO1 hz3 (by omega) hB) (fun rv3 s3 hq3 => ?_)
        obtain ⟨rfl, hq3⟩ := hq3
        replace hq3 := hq3.symm
        subst hq3
        refine Wp.call rfl cqX1_has (sX1_has (σ := σ) hP hO1 (stE (by omega)) (by have := hB i (by omega); omega)) (fun rv4 s4 hq4 => ?_)
        obtain ⟨rfl, hq4⟩ := hq4
        replace hq4 := hq4.symm
        subst hq4
        refine Wp.go rfl ?_
        refine Wp.bneD (p := qa P i < pn P) rfl (fun (h3 : qa P i < pn P) => ?_) (fun (h3 : ¬ (qa P i < pn P)) => ?_)
        · iterate 5 refine Wp.go rfl ?_
          have e1 : foR (hlS P k) (n + 1) i g = foR (hlS P k) n (i + 1) (g || false) := by show foR (hlS P k) n (i + 1) (hlS P k g i) = _; congr 1; simp [hlS, *]
          rw [e1]
          refine Wp.lo (lo := [(0, .inr (some 13)), (1, .inl _), (2, .inl _), (3, .inl _)]) ⟨rfl, rfl, rfl, rfl, trivial⟩ ?_
          exact ih (i + 1) _ (nE_add hz3 (rfl : _ = nI 1)) (by omega) _ _ (orE hz2 (rfl : _ = bI false))
        · iterate 6 refine Wp.go rfl ?_
          have e1 : foR (hlS P k) (n + 1) i g = foR (hlS P k) n (i + 1) (g || true) := by show foR (hlS P k) n (i + 1) (hlS P k g i) = _; congr 1; simp [hlS, *]
          rw [e1]
          refine Wp.lo (lo := [(0, .inr (some 13)), (1, .inl _), (2, .inl _), (3, .inl _)]) ⟨rfl, rfl, rfl, rfl, trivial⟩ ?_
          exact ih (i + 1) _ (nE_add hz3 (rfl : _ = nI 1)) (by omega) _ _ (orE hz2 (rfl : _ = bI true))
set_option maxRecDepth 100000 in
theorem sX6_handlerLeadsOut {P : pT} (hO1 : pn P ≤ 30 ∧ qn P ≤ 4) (hp20 : ∀ k, k < pn P → po P k ≤ 20) (hB : ∀ j, j < qn P → qf P j < qt P j ∧ qt P j ≤ 30 ∧ qa P j < 30 ∧ qk P j < 8) (hJ : ∀ k, k < 30 → juA P k = true → nuA P k = nI (nuN P k) ∧ nuN P k < 30) {σ : mc_G} (hP : cCode P σ) {x : Int32} {k : Nat} (hx : x = nI k) (hk : k < 30) : Wp miX6_handlerLeadsOut 0 [(0, .inr (some 13)), (1, .inl x)] [] σ (fun rv σ' => rv = some (.inl (bI (hlA P k))) ∧ σ' = σ) := by
  iterate 4 refine Wp.go rfl ?_
  refine Wp.lo (lo := [(0, .inr (some 13)), (1, .inl _), (2, .inl _), (3, .inl _)]) ⟨rfl, rfl, rfl, rfl, trivial⟩ ?_
  exact lX6_hlo hO1 hp20 hB hJ hP hx hk (qn P) 0 _ (rfl : _ = nI 0) (by omega) false _ (rfl : _ = bI false)
set_option maxRecDepth 100000 in
theorem lX6_fau {P : pT} (hO1 : pn P ≤ 30 ∧ qn P ≤ 4) (hp20 : ∀ k, k < pn P → po P k ≤ 20) (hB : ∀ j, j < qn P → qf P j < qt P j ∧ qt P j ≤ 30 ∧ qa P j < 30 ∧ qk P j < 8) (hJ : ∀ k, k < 30 → juA P k = true → nuA P k = nI (nuN P k) ∧ nuN P k < 30) {σ : mc_G} (hP : cCode P σ) (hS : cSta σ) {Z : zS} (hZ : cSiz Z σ) {x : Int32} {k : Nat} (hx : x = nI k) (hk : k < 30) {Φ : Option mc_V → mc_G → Prop} : ∀ (n i : Nat) (x4 : Int32), x4 = nI i → i + n = 7 → ∀ (g f : Bool) (x2 : Int32), x2 = bI g → ∀ (x3 : Int32), x3 = bI f → (∀ (y2 y3 : Int32), y2 = bI (foR (ffA P Z k) n i (g, f)).1 → y3 = bI (foR (ffA P Z k) n i (g, f)).2 → Wp miX6_faultAt 75 [(0, .inr (some 13)), (1, .inl x), (2, .inl y2), (3, .inl y3)] [] σ Φ) → Wp miX6_faultAt 7 [(0, .inr (some 13)), (1, .inl x), (2, .inl x2), (3, .inl x3), (4, .inl x4)] [] σ Φ := by
  intro n
  induction n with
  | zero =>
    intro i x4 hz4 hin g f x2 hz2 x3 hz3 kk
    iterate 3 refine Wp.go rfl ?_
    refine Wp.gtN (a := i) (b := 6) hz4 (rfl : _ = nI 6) (by omega) (by omega) (fun (h1 : 6 < i) => ?_) (fun (h1 : ¬ 6 < i) => ?_)
    · refine Wp.lo (lo := [(0, .inr (some 13)), (1, .inl _), (2, .inl _), (3, .inl _)]) ⟨rfl, rfl, rfl, rfl, trivial⟩ ?_
      exact kk _ _ hz2 hz3
    · exfalso; omega
  | succ n ih =>
    intro i x4 hz4 hin g f x2 hz2 x3 hz3 kk
    iterate 3 refine Wp.go rfl ?_
    refine Wp.gtN (a := i) (b := 6) hz4 (rfl : _ = nI 6) (by omega) (by omega) (fun (h1 : 6 < i) => ?_) (fun (h1 : ¬ 6 < i) => ?_)
    · exfalso; omega
    · iterate 3 refine Wp.go rfl ?_
      refine Wp.call rfl cqX6_fits (sX6_fits (σ := σ) hP hO1 hp20 hZ hx (by omega) hz4 (by omega) hS) (fun rv1 s1 hq1 => ?_)
      obtain ⟨rfl, hq1⟩ := hq1
      replace hq1 := hq1.symm
      subst hq1
      iterate 5 refine Wp.go rfl ?_
      refine Wp.call rfl cqX6_comesWith (sX6_comesWith (σ := σ) hP hO1 hp20 hZ hx (by omega) hz4 (by omega)) (fun rv2 s2 hq2 => ?_)
      obtain ⟨rfl, hq2⟩ := hq2
      replace hq2 := hq2.symm
      subst hq2
      refine Wp.go rfl ?_
      refine Wp.beqE rfl (fun (h2 : ((snA (pn P) Z k).testBit i) = false) => ?_) (fun (h2 : ((snA (pn P) Z k).testBit i) = true) => ?_)
      · iterate 7 refine Wp.go rfl ?_
        refine Wp.call rfl cqX6_comesWith (sX6_comesWith (σ := σ) hP hO1 hp20 hZ hx (by omega) hz4 (by omega)) (fun rv3 s3 hq3 => ?_)
        obtain ⟨rfl, hq3⟩ := hq3
        replace hq3 := hq3.symm
        subst hq3
        refine Wp.go rfl ?_
        refine Wp.beqE rfl (fun (h3 : ((snA (pn P) Z k).testBit i) = false) => ?_) (fun (h3 : ((snA (pn P) Z k).testBit i) = true) => ?_)
        · iterate 6 refine Wp.go rfl ?_
          have e1 : foR (ffA P Z k) (n + 1) i (g, f) = foR (ffA P Z k) n (i + 1) (g || false, f && true) := by show foR (ffA P Z k) n (i + 1) (ffA P Z k (g, f) i) = _; congr 1; simp_all [ffA]
          rw [e1] at kk
          refine Wp.lo (lo := [(0, .inr (some 13)), (1, .inl _), (2, .inl _), (3, .inl _), (4, .inl _)]) ⟨rfl, rfl, rfl, rfl, rfl, trivial⟩ ?_
          exact ih (i + 1) _ (nE_add hz4 (rfl : _ = nI 1)) (by omega) _ _ _ (orE hz2 (rfl : _ = bI false)) _ (andE hz3 (rfl : _ = bI true)) kk
        · iterate 2 refine Wp.go rfl ?_
          refine Wp.beqE rfl (fun (h4 : (fiA (opA P k) i) = false) => ?_) (fun (h4 : (fiA (opA P k) i) = true) => ?_)
          · iterate 5 refine Wp.go rfl ?_
            have e1 : foR (ffA P Z k) (n + 1) i (g, f) = foR (ffA P Z k) n (i + 1) (g || false, f && false) := by show foR (ffA P Z k) n (i + 1) (ffA P Z k (g, f) i) = _; congr 1; simp_all [ffA]
            rw [e1] at kk
            refine Wp.lo (lo := [(0, .inr (some 13)), (1, .inl _), (2, .inl _), (3, .inl _), (4, .inl _)]) ⟨rfl, rfl, rfl, rfl, rfl, trivial⟩ ?_
            exact ih (i + 1) _ (nE_add hz4 (rfl : _ = nI 1)) (by omega) _ _ _ (orE hz2 (rfl : _ = bI false)) _ (andE hz3 (rfl : _ = bI false)) kk
          · iterate 6 refine Wp.go rfl ?_
            have e1 : foR (ffA P Z k) (n + 1) i (g, f) = foR (ffA P Z k) n (i + 1) (g || false, f && true) := by show foR (ffA P Z k) n (i + 1) (ffA P Z k (g, f) i) = _; congr 1; simp_all [ffA]
            rw [e1] at kk
            refine Wp.lo (lo := [(0, .inr (some 13)), (1, .inl _), (2, .inl _), (3, .inl _), (4, .inl _)]) ⟨rfl, rfl, rfl, rfl, rfl, trivial⟩ ?_
            exact ih (i + 1) _ (nE_add hz4 (rfl : _ = nI 1)) (by omega) _ _ _ (orE hz2 (rfl : _ = bI false)) _ (andE hz3 (rfl : _ = bI true)) kk
      · iterate 2 refine Wp.go rfl ?_
        refine Wp.beqE rfl (fun (h5 : (fiA (opA P k) i) = false) => ?_) (fun (h5 : (fiA (opA P k) i) = true) => ?_)
        · iterate 7 refine Wp.go rfl ?_
          refine Wp.call rfl cqX6_comesWith (sX6_comesWith (σ := σ) hP hO1 hp20 hZ hx (by omega) hz4 (by omega)) (fun rv4 s4 hq4 => ?_)
          obtain ⟨rfl, hq4⟩ := hq4
          replace hq4 := hq4.symm
          subst hq4
          refine Wp.go rfl ?_
          refine Wp.beqE rfl (fun (h6 : ((snA (pn P) Z k).testBit i) = false) => ?_) (fun (h6 : ((snA (pn P) Z k).testBit i) = true) => ?_)
          · iterate 6 refine Wp.go rfl ?_
            have e1 : foR (ffA P Z k) (n + 1) i (g, f) = foR (ffA P Z k) n (i + 1) (g || false, f && true) := by show foR (ffA P Z k) n (i + 1) (ffA P Z k (g, f) i) = _; congr 1; simp_all [ffA]
            rw [e1] at kk
            refine Wp.lo (lo := [(0, .inr (some 13)), (1, .inl _), (2, .inl _), (3, .inl _), (4, .inl _)]) ⟨rfl, rfl, rfl, rfl, rfl, trivial⟩ ?_
            exact ih (i + 1) _ (nE_add hz4 (rfl : _ = nI 1)) (by omega) _ _ _ (orE hz2 (rfl : _ = bI false)) _ (andE hz3 (rfl : _ = bI true)) kk
          · iterate 2 refine Wp.go rfl ?_
            refine Wp.beqE rfl (fun (h7 : (fiA (opA P k) i) = false) => ?_) (fun (h7 : (fiA (opA P k) i) = true) => ?_)
            · iterate 5 refine Wp.go rfl ?_
              have e1 : foR (ffA P Z k) (n + 1) i (g, f) = foR (ffA P Z k) n (i + 1) (g || false, f && false) := by show foR (ffA P Z k) n (i + 1) (ffA P Z k (g, f) i) = _; congr 1; simp_all [ffA]
              rw [e1] at kk
              refine Wp.lo (lo := [(0, .inr (some 13)), (1, .inl _), (2, .inl _), (3, .inl _), (4, .inl _)]) ⟨rfl, rfl, rfl, rfl, rfl, trivial⟩ ?_
              exact ih (i + 1) _ (nE_add hz4 (rfl : _ = nI 1)) (by omega) _ _ _ (orE hz2 (rfl : _ = bI false)) _ (andE hz3 (rfl : _ = bI false)) kk
            · iterate 6 refine Wp.go rfl ?_
              have e1 : foR (ffA P Z k) (n + 1) i (g, f) = foR (ffA P Z k) n (i + 1) (g || false, f && true) := by show foR (ffA P Z k) n (i + 1) (ffA P Z k (g, f) i) = _; congr 1; simp_all [ffA]
              rw [e1] at kk
              refine Wp.lo (lo := [(0, .inr (some 13)), (1, .inl _), (2, .inl _), (3, .inl _), (4, .inl _)]) ⟨rfl, rfl, rfl, rfl, rfl, trivial⟩ ?_
              exact ih (i + 1) _ (nE_add hz4 (rfl : _ = nI 1)) (by omega) _ _ _ (orE hz2 (rfl : _ = bI false)) _ (andE hz3 (rfl : _ = bI true)) kk
        · iterate 8 refine Wp.go rfl ?_
          refine Wp.call rfl cqX6_comesWith (sX6_comesWith (σ := σ) hP hO1 hp20 hZ hx (by omega) hz4 (by omega)) (fun rv5 s5 hq5 => ?_)
          obtain ⟨rfl, hq5⟩ := hq5
          replace hq5 := hq5.symm
          subst hq5
          refine Wp.go rfl ?_
          refine Wp.beqE rfl (fun (h8 : ((snA (pn P) Z k).testBit i) = false) => ?_) (fun (h8 : ((snA (pn P) Z k).testBit i) = true) => ?_)
          · iterate 6 refine Wp.go rfl ?_
            have e1 : foR (ffA P Z k) (n + 1) i (g, f) = foR (ffA P Z k) n (i + 1) (g || true, f && true) := by show foR (ffA P Z k) n (i + 1) (ffA P Z k (g, f) i) = _; congr 1; simp_all [ffA]
            rw [e1] at kk
            refine Wp.lo (lo := [(0, .inr (some 13)), (1, .inl _), (2, .inl _), (3, .inl _), (4, .inl _)]) ⟨rfl, rfl, rfl, rfl, rfl, trivial⟩ ?_
            exact ih (i + 1) _ (nE_add hz4 (rfl : _ = nI 1)) (by omega) _ _ _ (orE hz2 (rfl : _ = bI true)) _ (andE hz3 (rfl : _ = bI true)) kk
          · iterate 2 refine Wp.go rfl ?_
            refine Wp.beqE rfl (fun (h9 : (fiA (opA P k) i) = false) => ?_) (fun (h9 : (fiA (opA P k) i) = true) => ?_)
            · iterate 5 refine Wp.go rfl ?_
              have e1 : foR (ffA P Z k) (n + 1) i (g, f) = foR (ffA P Z k) n (i + 1) (g || true, f && false) := by show foR (ffA P Z k) n (i + 1) (ffA P Z k (g, f) i) = _; congr 1; simp_all [ffA]
              rw [e1] at kk
              refine Wp.lo (lo := [(0, .inr (some 13)), (1, .inl _), (2, .inl _), (3, .inl _), (4, .inl _)]) ⟨rfl, rfl, rfl, rfl, rfl, trivial⟩ ?_
              exact ih (i + 1) _ (nE_add hz4 (rfl : _ = nI 1)) (by omega) _ _ _ (orE hz2 (rfl : _ = bI true)) _ (andE hz3 (rfl : _ = bI false)) kk
            · iterate 6 refine Wp.go rfl ?_
              have e1 : foR (ffA P Z k) (n + 1) i (g, f) = foR (ffA P Z k) n (i + 1) (g || true, f && true) := by show foR (ffA P Z k) n (i + 1) (ffA P Z k (g, f) i) = _; congr 1; simp_all [ffA]
              rw [e1] at kk
              refine Wp.lo (lo := [(0, .inr (some 13)), (1, .inl _), (2, .inl _), (3, .inl _), (4, .inl _)]) ⟨rfl, rfl, rfl, rfl, rfl, trivial⟩ ?_
              exact ih (i + 1) _ (nE_add hz4 (rfl : _ = nI 1)) (by omega) _ _ _ (orE hz2 (rfl : _ = bI true)) _ (andE hz3 (rfl : _ = bI true)) kk
set_option maxRecDepth 100000 in
theorem sX6_faultAt {P : pT} (hO1 : pn P ≤ 30 ∧ qn P ≤ 4) (hp20 : ∀ k, k < pn P → po P k ≤ 20) (hB : ∀ j, j < qn P → qf P j < qt P j ∧ qt P j ≤ 30 ∧ qa P j < 30 ∧ qk P j < 8) (hJ : ∀ k, k < 30 → juA P k = true → nuA P k = nI (nuN P k) ∧ nuN P k < 30) {σ : mc_G} (hP : cCode P σ) (hS : cSta σ) {Z : zS} (hZ : cSiz Z σ) {x : Int32} {k : Nat} (hx : x = nI k) (hk : k < 30) : Wp miX6_faultAt 0 [(0, .inr (some 13)), (1, .inl x)] [] σ (fun rv σ' => rv = some (.inl (nI (faA P Z k))) ∧ σ' = σ) := by
  have hm : snA (pn P) Z k < 128 := by unfold snA; split; exact (hZ.1 k (by omega)).2.1; decide
  iterate 6 refine Wp.go rfl ?_
  refine Wp.lo (lo := [(0, .inr (some 13)), (1, .inl _), (2, .inl _), (3, .inl _), (4, .inl _)]) ⟨rfl, rfl, rfl, rfl, rfl, trivial⟩ ?_
  refine lX6_fau hO1 hp20 hB hJ hP hS hZ hx hk 7 0 _ (rfl : _ = nI 0) rfl false true _ (rfl : _ = bI false) _ (rfl : _ = bI true) (fun y2 y3 hy2 hy3 => ?_)
  replace hy2 : y2 = bI (fpA P Z k).1 := hy2
  replace hy3 : y3 = bI (fpA P Z k).2 := hy3
  iterate 2 refine Wp.go rfl ?_
  refine Wp.beqE hy2 (fun (h1 : ((fpA P Z k).1) = false) => ?_) (fun (h1 : ((fpA P Z k).1) = true) => ?_)
  · iterate 2 refine Wp.go rfl ?_
    refine Wp.call rfl cqX6_seenAt (sX6_seenAt (σ := σ) hP hO1 hp20 hZ hx (by omega)) (fun rv1 s1 hq1 => ?_)
    obtain ⟨rfl, hq1⟩ := hq1
    replace hq1 := hq1.symm
    subst hq1
    refine Wp.go rfl ?_
    refine Wp.eqN (a := snA (pn P) Z k) (b := 0) rfl (rfl : _ = nI 0) (by first | omega | (have := pcA_le (snA (pn P) Z k); omega)) (by first | omega | (have := pcA_le (snA (pn P) Z k); omega)) (fun (h2 : snA (pn P) Z k = 0) => ?_) (fun (h2 : ¬ snA (pn P) Z k = 0) => ?_)
    · iterate 2 refine Wp.go rfl ?_
      refine Wp.call rfl cqX6_seenAt (sX6_seenAt (σ := σ) hP hO1 hp20 hZ hx (by omega)) (fun rv2 s2 hq2 => ?_)
      obtain ⟨rfl, hq2⟩ := hq2
      replace hq2 := hq2.symm
      subst hq2
      refine Wp.call rfl cqJ6_bitCount_0f7a4 (sJ6_bitCount (σ := σ) rfl hm) (fun rv3 s3 hq3 => ?_)
      obtain ⟨rfl, hq3⟩ := hq3
      replace hq3 := hq3.symm
      subst hq3
      iterate 2 refine Wp.go rfl ?_
      refine Wp.leN (a := pcA (snA (pn P) Z k)) (b := 1) rfl (rfl : _ = nI 1) (by first | omega | (have := pcA_le (snA (pn P) Z k); omega)) (by first | omega | (have := pcA_le (snA (pn P) Z k); omega)) (fun (h3 : ¬ 1 < pcA (snA (pn P) Z k)) => ?_) (fun (h3 : 1 < pcA (snA (pn P) Z k)) => ?_)
      · iterate 2 refine Wp.go rfl ?_
        refine Wp.beqE hy3 (fun (h4 : ((fpA P Z k).2) = false) => ?_) (fun (h4 : ((fpA P Z k).2) = true) => ?_)
        · refine Wp.go rfl ?_
          refine Wp.ret rfl ?_
          exact ⟨rvN (rfl : _ = nI 3) (by simp_all [faA]), rfl⟩
        · iterate 2 refine Wp.go rfl ?_
          refine Wp.ret rfl ?_
          exact ⟨rvN (rfl : _ = nI 0) (by simp_all [faA]), rfl⟩
      · refine Wp.go rfl ?_
        refine Wp.ret rfl ?_
        exact ⟨rvN (rfl : _ = nI 2) (by simp_all [faA]), rfl⟩
    · iterate 2 refine Wp.go rfl ?_
      refine Wp.call rfl cqX6_handlerLeadsOut (sX6_handlerLeadsOut (σ := σ) hO1 hp20 hB hJ hP hx hk) (fun rv4 s4 hq4 => ?_)
      obtain ⟨rfl, hq4⟩ := hq4
      replace hq4 := hq4.symm
      subst hq4
      refine Wp.go rfl ?_
      refine Wp.beqE rfl (fun (h5 : (hlA P k) = false) => ?_) (fun (h5 : (hlA P k) = true) => ?_)
      · iterate 2 refine Wp.go rfl ?_
        refine Wp.call rfl cqX6_seenAt (sX6_seenAt (σ := σ) hP hO1 hp20 hZ hx (by omega)) (fun rv5 s5 hq5 => ?_)
        obtain ⟨rfl, hq5⟩ := hq5
        replace hq5 := hq5.symm
        subst hq5
        refine Wp.call rfl cqJ6_bitCount_0f7a4 (sJ6_bitCount (σ := σ) rfl hm) (fun rv6 s6 hq6 => ?_)
        obtain ⟨rfl, hq6⟩ := hq6
        replace hq6 := hq6.symm
        subst hq6
        iterate 2 refine Wp.go rfl ?_
        refine Wp.leN (a := pcA (snA (pn P) Z k)) (b := 1) rfl (rfl : _ = nI 1) (by first | omega | (have := pcA_le (snA (pn P) Z k); omega)) (by first | omega | (have := pcA_le (snA (pn P) Z k); omega)) (fun (h6 : ¬ 1 < pcA (snA (pn P) Z k)) => ?_) (fun (h6 : 1 < pcA (snA (pn P) Z k)) => ?_)
        · iterate 2 refine Wp.go rfl ?_
          refine Wp.beqE hy3 (fun (h7 : ((fpA P Z k).2) = false) => ?_) (fun (h7 : ((fpA P Z k).2) = true) => ?_)
          · refine Wp.go rfl ?_
            refine Wp.ret rfl ?_
            exact ⟨rvN (rfl : _ = nI 3) (by simp_all [faA]), rfl⟩
          · iterate 2 refine Wp.go rfl ?_
            refine Wp.ret rfl ?_
            exact ⟨rvN (rfl : _ = nI 0) (by simp_all [faA]), rfl⟩
        · refine Wp.go rfl ?_
          refine Wp.ret rfl ?_
          exact ⟨rvN (rfl : _ = nI 2) (by simp_all [faA]), rfl⟩
      · refine Wp.go rfl ?_
        refine Wp.ret rfl ?_
        exact ⟨rvN (rfl : _ = nI 1) (by simp_all [faA]), rfl⟩
  · iterate 2 refine Wp.go rfl ?_
    refine Wp.call rfl cqX6_leadsOut (sX6_leadsOut (σ := σ) hO1 hp20 hB hJ hP hx hk) (fun rv7 s7 hq7 => ?_)
    obtain ⟨rfl, hq7⟩ := hq7
    replace hq7 := hq7.symm
    subst hq7
    refine Wp.go rfl ?_
    refine Wp.bneE rfl (fun (h8 : (loA P k) = true) => ?_) (fun (h8 : (loA P k) = false) => ?_)
    · refine Wp.go rfl ?_
      refine Wp.ret rfl ?_
      exact ⟨rvN (rfl : _ = nI 1) (by simp_all [faA]), rfl⟩
    · iterate 2 refine Wp.go rfl ?_
      refine Wp.call rfl cqX6_seenAt (sX6_seenAt (σ := σ) hP hO1 hp20 hZ hx (by omega)) (fun rv8 s8 hq8 => ?_)
      obtain ⟨rfl, hq8⟩ := hq8
      replace hq8 := hq8.symm
      subst hq8
      refine Wp.go rfl ?_
      refine Wp.eqN (a := snA (pn P) Z k) (b := 0) rfl (rfl : _ = nI 0) (by first | omega | (have := pcA_le (snA (pn P) Z k); omega)) (by first | omega | (have := pcA_le (snA (pn P) Z k); omega)) (fun (h9 : snA (pn P) Z k = 0) => ?_) (fun (h9 : ¬ snA (pn P) Z k = 0) => ?_)
      · iterate 2 refine Wp.go rfl ?_
        refine Wp.call rfl cqX6_seenAt (sX6_seenAt (σ := σ) hP hO1 hp20 hZ hx (by omega)) (fun rv9 s9 hq9 => ?_)
        obtain ⟨rfl, hq9⟩ := hq9
        replace hq9 := hq9.symm
        subst hq9
        refine Wp.call rfl cqJ6_bitCount_0f7a4 (sJ6_bitCount (σ := σ) rfl hm) (fun rv10 s10 hq10 => ?_)
        obtain ⟨rfl, hq10⟩ := hq10
        replace hq10 := hq10.symm
        subst hq10
        iterate 2 refine Wp.go rfl ?_
        refine Wp.leN (a := pcA (snA (pn P) Z k)) (b := 1) rfl (rfl : _ = nI 1) (by first | omega | (have := pcA_le (snA (pn P) Z k); omega)) (by first | omega | (have := pcA_le (snA (pn P) Z k); omega)) (fun (h10 : ¬ 1 < pcA (snA (pn P) Z k)) => ?_) (fun (h10 : 1 < pcA (snA (pn P) Z k)) => ?_)
        · iterate 2 refine Wp.go rfl ?_
          refine Wp.beqE hy3 (fun (h11 : ((fpA P Z k).2) = false) => ?_) (fun (h11 : ((fpA P Z k).2) = true) => ?_)
          · refine Wp.go rfl ?_
            refine Wp.ret rfl ?_
            exact ⟨rvN (rfl : _ = nI 3) (by simp_all [faA]), rfl⟩
          · iterate 2 refine Wp.go rfl ?_
            refine Wp.ret rfl ?_
            exact ⟨rvN (rfl : _ = nI 0) (by simp_all [faA]), rfl⟩
        · refine Wp.go rfl ?_
          refine Wp.ret rfl ?_
          exact ⟨rvN (rfl : _ = nI 2) (by simp_all [faA]), rfl⟩
      · iterate 2 refine Wp.go rfl ?_
        refine Wp.call rfl cqX6_handlerLeadsOut (sX6_handlerLeadsOut (σ := σ) hO1 hp20 hB hJ hP hx hk) (fun rv11 s11 hq11 => ?_)
        obtain ⟨rfl, hq11⟩ := hq11
        replace hq11 := hq11.symm
        subst hq11
        refine Wp.go rfl ?_
        refine Wp.beqE rfl (fun (h12 : (hlA P k) = false) => ?_) (fun (h12 : (hlA P k) = true) => ?_)
        · iterate 2 refine Wp.go rfl ?_
          refine Wp.call rfl cqX6_seenAt (sX6_seenAt (σ := σ) hP hO1 hp20 hZ hx (by omega)) (fun rv12 s12 hq12 => ?_)
          obtain ⟨rfl, hq12⟩ := hq12
          replace hq12 := hq12.symm
          subst hq12
          refine Wp.call rfl cqJ6_bitCount_0f7a4 (sJ6_bitCount (σ := σ) rfl hm) (fun rv13 s13 hq13 => ?_)
          obtain ⟨rfl, hq13⟩ := hq13
          replace hq13 := hq13.symm
          subst hq13
          iterate 2 refine Wp.go rfl ?_
          refine Wp.leN (a := pcA (snA (pn P) Z k)) (b := 1) rfl (rfl : _ = nI 1) (by first | omega | (have := pcA_le (snA (pn P) Z k); omega)) (by first | omega | (have := pcA_le (snA (pn P) Z k); omega)) (fun (h13 : ¬ 1 < pcA (snA (pn P) Z k)) => ?_) (fun (h13 : 1 < pcA (snA (pn P) Z k)) => ?_)
          · iterate 2 refine Wp.go rfl ?_
            refine Wp.beqE hy3 (fun (h14 : ((fpA P Z k).2) = false) => ?_) (fun (h14 : ((fpA P Z k).2) = true) => ?_)
            · refine Wp.go rfl ?_
              refine Wp.ret rfl ?_
              exact ⟨rvN (rfl : _ = nI 3) (by simp_all [faA]), rfl⟩
            · iterate 2 refine Wp.go rfl ?_
              refine Wp.ret rfl ?_
              exact ⟨rvN (rfl : _ = nI 0) (by simp_all [faA]), rfl⟩
          · refine Wp.go rfl ?_
            refine Wp.ret rfl ?_
            exact ⟨rvN (rfl : _ = nI 2) (by simp_all [faA]), rfl⟩
        · refine Wp.go rfl ?_
          refine Wp.ret rfl ?_
          exact ⟨rvN (rfl : _ = nI 1) (by simp_all [faA]), rfl⟩

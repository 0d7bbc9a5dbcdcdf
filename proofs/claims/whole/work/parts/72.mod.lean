/-! the reference's sizes of THE PILE, and its faults of them -/
abbrev hS : Type := (Nat → Nat) × (Nat → Nat)
def mHF (Z : hS) (σ : mc_G) : Prop := ∀ i, i < 30 → σ 177 i = nI (Z.1 i) ∧ Z.1 i < 128 ∧ σ 178 i = nI (Z.2 i) ∧ Z.2 i < 16
def hcA (n : Nat) (Z : hS) (i j s : Nat) : hS := if j < n then (va_up Z.1 j (Z.1 j ||| 2 ^ s), Z.2) else (Z.1, va_up Z.2 i (Z.2 i ||| 2))
def hhA (P : pT) (i : Nat) (Z : hS) (j : Nat) : hS := if cvA P j i = true then hcA (pn P) Z i (qa P j) 1 else Z
def hgA (P : pT) (i t : Nat) (Z : hS) : hS := if goA P i = true then hcA (pn P) Z i (i + 1) t else Z
def hjA (P : pT) (i t : Nat) (Z : hS) : hS := if juA P i = true then hcA (pn P) Z i (nuN P i) t else Z
def haA (P : pT) (Z : hS) (i s : Nat) : hS := if fiA (opA P i) s = true then hjA P i (s - tkA (opA P i) + gvA (opA P i)) (hgA P i (s - tkA (opA P i) + gvA (opA P i)) (foR (hhA P i) (qn P) 0 Z)) else ((foR (hhA P i) (qn P) 0 Z).1, va_up (foR (hhA P i) (qn P) 0 Z).2 i ((foR (hhA P i) (qn P) 0 Z).2 i ||| 8))
def hmA (P : pT) (i : Nat) (Z : hS) (s : Nat) : hS := if (Z.1 i).testBit s = true then haA P Z i s else Z
def hiA (P : pT) (Z : hS) (i : Nat) : hS := foR (hmA P i) 7 0 Z
def hpA (P : pT) (Z : hS) (_ : Nat) : hS := foR (hiA P) (pn P) 0 Z
def h0A : hS := (va_up (fun _ => 0) 0 1, fun _ => 0)
theorem mHF.h {Z : hS} {σ : mc_G} {x v : Int32} {j q : Nat} (h : mHF Z σ) (hx : x = nI j) (hj : j < 30) (hv : v = nI q) (hq : q < 128) : mHF (va_up Z.1 j q, Z.2) (mc_up σ 177 x.toNatClampNeg v) := by
  intro i hi
  rw [clE hx (by omega), upj, mc_upn _ _ _ (by decide)]
  unfold va_up
  by_cases e : i = j
  · simp only [e, if_true]; exact ⟨hv, hq, (h j hj).2.2⟩
  · simp only [e, if_false]; exact h i hi
theorem mHF.f {Z : hS} {σ : mc_G} {x v : Int32} {j q : Nat} (h : mHF Z σ) (hx : x = nI j) (hj : j < 30) (hv : v = nI q) (hq : q < 16) : mHF (Z.1, va_up Z.2 j q) (mc_up σ 178 x.toNatClampNeg v) := by
  intro i hi
  rw [clE hx (by omega), upj, mc_upn _ _ _ (by decide)]
  unfold va_up
  by_cases e : i = j
  · simp only [e, if_true]; exact ⟨(h j hj).1, (h j hj).2.1, hv, hq⟩
  · simp only [e, if_false]; exact h i hi
theorem or_16 : ∀ a, a < 16 → a ||| 2 < 16 ∧ a ||| 8 < 16 := by decide +kernel
set_option maxRecDepth 100000 in
theorem sX12_come {P : pT} {Z : hS} {σ : mc_G} (hP : cMP P σ) (hn : pn P ≤ 30) (hZ : mHF Z σ) {x y v : Int32} {i j s : Nat} (hx : x = nI i) (hi : i < 30) (hy : y = nI j) (hj : j < 2 ^ 31) (hw : v = nI s) (hs : s ≤ 6) : Wp miX12_come 0 [(0, .inr (some 167)), (1, .inl x), (2, .inl y), (3, .inl v)] [] σ (fun rv σ' => rv = none ∧ mHF (hcA (pn P) Z i j s) σ' ∧ mo [177, 178] [] σ σ') := by
  iterate 4 refine Wp.go rfl ?_
  refine Wp.ltN (a := j) (b := pn P) hy (hP.o (cs := [177, 178]) (fs := []) (mo.rf)).1 (by omega) (by omega) (fun (h1 : j < pn P) => ?_) (fun (h1 : ¬ j < pn P) => ?_)
  · iterate 4 refine Wp.go rfl ?_
    refine Wp.go (if_pos ⟨rfl, rfl, (inE (n := 30) hy (by omega))⟩) ?_
    iterate 4 refine Wp.go rfl ?_
    refine Wp.go (if_pos ⟨(show 177 < 187 by decide), rfl, (inE (n := 30) hy (by omega))⟩) ?_
    refine Wp.ret rfl ?_
    refine ⟨rfl, ?_, mo.a _ (by decide) (by decide) _ _⟩
    unfold hcA
    rw [if_pos (by omega)]
    exact (hZ).h hy (by omega) (nE_or (rdE hy (by omega) ((hZ) j (by omega)).1) (nE_sh (rfl : _ = nI 1) hw (by omega))) (bt_lt (hZ _ (by omega)).2.1 (by omega)).2.1
  · iterate 4 refine Wp.go rfl ?_
    refine Wp.go (if_pos ⟨rfl, rfl, (inE (n := 30) hx (by omega))⟩) ?_
    iterate 2 refine Wp.go rfl ?_
    refine Wp.go (if_pos ⟨(show 178 < 187 by decide), rfl, (inE (n := 30) hx (by omega))⟩) ?_
    refine Wp.go rfl ?_
    refine Wp.ret rfl ?_
    refine ⟨rfl, ?_, mo.a _ (by decide) (by decide) _ _⟩
    unfold hcA
    rw [if_neg (by omega)]
    exact (hZ).f hx (by omega) (nE_or (rdE hx (by omega) ((hZ) i (by omega)).2.2.1) (rfl : _ = nI 2)) (or_16 _ (hZ _ (by omega)).2.2.2).1
set_option maxRecDepth 100000 in
theorem lX12_gaH {P : pT} (hn : pn P ≤ 30 ∧ qn P ≤ 4) (hB : ∀ j, j < qn P → qf P j < qt P j ∧ qt P j ≤ 30 ∧ qa P j < 30 ∧ qk P j < 8) {σ0 : mc_G} (hP : cMP P σ0) {i s : Nat} (hi : i < pn P) (hs : s ≤ 6) {x y v : Int32} (hx : x = nI i) (hy : y = nI s) (hw : v = nI (opA P i)) {Φ : Option mc_V → mc_G → Prop} : ∀ (n j : Nat) (z : Int32) (Z : hS) (σ : mc_G), z = nI j → j + n = qn P → mHF Z σ → mo [177, 178] [] σ0 σ → (∀ (z1 : Int32) (σ1 : mc_G), mHF (foR (hhA P i) n j Z) σ1 → mo [177, 178] [] σ0 σ1 → Wp miX12_goAlong 61 [(0, .inr (some 167)), (1, .inl x), (2, .inl y), (3, .inl v), (4, .inl z1)] [] σ1 Φ) → Wp miX12_goAlong 10 [(0, .inr (some 167)), (1, .inl x), (2, .inl y), (3, .inl v), (4, .inl z)] [] σ Φ := by
  obtain ⟨hn, hq4⟩ := hn
  intro n
  induction n with
  | zero =>
    intro j z Z σ hz hj hZ ho kk
    iterate 4 refine Wp.go rfl ?_
    refine Wp.geN (a := j) (b := qn P) hz (hP.o ho).2.1 (by omega) (by omega) (fun (h1 : ¬ j < qn P) => ?_) (fun (h1 : j < qn P) => by omega)
    exact kk z σ hZ ho
  | succ n ih =>
    intro j z Z σ hz hj hZ ho kk
    have hqj := hB j (by omega)
    iterate 4 refine Wp.go rfl ?_
    refine Wp.geN (a := j) (b := qn P) hz (hP.o (cs := [177, 178]) (fs := []) (ho)).2.1 (by omega) (by omega) (fun (h1 : ¬ j < qn P) => ?_) (fun (h1 : j < qn P) => ?_)
    · exfalso; omega
    · iterate 4 refine Wp.go rfl ?_
      refine Wp.go (if_pos ⟨rfl, rfl, (inE (n := 4) hz (by omega))⟩) ?_
      iterate 3 refine Wp.go rfl ?_
      refine Wp.go (if_pos ⟨rfl, rfl, (inE (n := 4) hz (by omega))⟩) ?_
      iterate 2 refine Wp.go rfl ?_
      refine Wp.call rfl cqX12_isIn (sX12_isIn_n hx (by omega) (rdE hz (by omega) ((hP.o (cs := [177, 178]) (fs := []) (ho)).2.2.2 j (by omega)).1) (by omega) (nE_sub (rdE hz (by omega) ((hP.o (cs := [177, 178]) (fs := []) (ho)).2.2.2 j (by omega)).2.1) (rfl : _ = nI 1) (by omega)) (by omega)) (fun rv1 s1 hq1 => ?_)
      obtain ⟨rfl, hq1⟩ := hq1
      replace hq1 := hq1.symm
      subst hq1
      refine Wp.go rfl ?_
      refine Wp.beqD (p := qf P j ≤ i ∧ i ≤ (qt P j) - 1) rfl (fun (h2 : ¬ (qf P j ≤ i ∧ i ≤ (qt P j) - 1)) => ?_) (fun (h2 : qf P j ≤ i ∧ i ≤ (qt P j) - 1) => ?_)
      · iterate 2 refine Wp.go rfl ?_
        have hcv : ¬ cvA P j i = true := by unfold cvA; simp; omega
        have e1 : hhA P i Z j = Z := by unfold hhA; rw [if_neg hcv]
        refine Wp.lo (lo := [(0, .inr (some 167)), (1, .inl _), (2, .inl _), (3, .inl _), (4, .inl _)]) ⟨rfl, rfl, rfl, rfl, rfl, trivial⟩ ?_
        exact ih (j + 1) _ (hhA P i Z j) σ (nE_add hz (rfl : _ = nI 1)) (by omega) (by rw [e1]; exact hZ) ho (fun z1 σ1 a1 a2 => kk z1 σ1 a1 a2)
      · iterate 5 refine Wp.go rfl ?_
        refine Wp.go (if_pos ⟨rfl, rfl, (inE (n := 4) hz (by omega))⟩) ?_
        refine Wp.go rfl ?_
        refine Wp.call rfl cqX12_come (sX12_come (hP.o (cs := [177, 178]) (fs := []) (ho)) hn (hZ) hx (by omega) (rdE hz (by omega) ((hP.o (cs := [177, 178]) (fs := []) (ho)).2.2.2 j (by omega)).2.2.1) (by omega) (rfl : _ = nI 1) (by omega)) (fun rv2 s2 hq2 => ?_)
        obtain ⟨rfl, hZ2, ho2⟩ := hq2
        iterate 2 refine Wp.go rfl ?_
        have hcv : cvA P j i = true := by unfold cvA; simp; omega
        have e1 : hhA P i Z j = hcA (pn P) Z i (qa P j) 1 := by unfold hhA; rw [if_pos hcv]
        refine Wp.lo (lo := [(0, .inr (some 167)), (1, .inl _), (2, .inl _), (3, .inl _), (4, .inl _)]) ⟨rfl, rfl, rfl, rfl, rfl, trivial⟩ ?_
        rw [← e1] at hZ2
        exact ih (j + 1) _ (hhA P i Z j) _ (nE_add hz (rfl : _ = nI 1)) (by omega) hZ2 ((ho).tr ho2) (fun z1 σ1 a1 a2 => kk z1 σ1 a1 a2)
set_option maxRecDepth 100000 in
theorem lX12_gaT {P : pT} (hn : pn P ≤ 30 ∧ qn P ≤ 4) (hB : ∀ j, j < qn P → qf P j < qt P j ∧ qt P j ≤ 30 ∧ qa P j < 30 ∧ qk P j < 8) {σ0 : mc_G} (hP : cMP P σ0) (hN : pNum P) {i s : Nat} (hi : i < pn P) (hs : s ≤ 6) (h20 : opA P i ≤ 20) {x y v z : Int32} (hx : x = nI i) (hy : y = nI s) (hw : v = nI (opA P i)) {Z : hS} {σ : mc_G} (hZ : mHF Z σ) (ho : mo [177, 178] [] σ0 σ) : Wp miX12_goAlong 61 [(0, .inr (some 167)), (1, .inl x), (2, .inl y), (3, .inl v), (4, .inl (z))] [] σ (fun rv σ' => rv = none ∧ mHF (if fiA (opA P i) s = true then hjA P i (s - tkA (opA P i) + gvA (opA P i)) (hgA P i (s - tkA (opA P i) + gvA (opA P i)) Z) else (Z.1, va_up Z.2 i (Z.2 i ||| 8))) σ' ∧ mo [177, 178] [] σ0 σ') := by
  obtain ⟨hn, hq4⟩ := hn
  have hN3 := fun q => hN.2.2 i q
  have hfi : fiA (opA P i) s = true → tkA (opA P i) ≤ s ∧ s - tkA (opA P i) + gvA (opA P i) ≤ 6 := fun q => by unfold fiA at q; simpa using q
  iterate 2 refine Wp.go rfl ?_
  refine Wp.call rfl cqX12_fitsHigh (sX12_fitsHigh hw h20 hy hs) (fun rv1 s1 hq1 => ?_)
  obtain ⟨rfl, hq1⟩ := hq1
  replace hq1 := hq1.symm
  subst hq1
  refine Wp.go rfl ?_
  refine Wp.bneE rfl (fun (h1 : (fiA (opA P i) s) = true) => ?_) (fun (h1 : (fiA (opA P i) s) = false) => ?_)
  · iterate 2 refine Wp.go rfl ?_
    refine Wp.call rfl cqX12_takes (sX12_takes hw h20) (fun rv2 s2 hq2 => ?_)
    obtain ⟨rfl, hq2⟩ := hq2
    replace hq2 := hq2.symm
    subst hq2
    iterate 2 refine Wp.go rfl ?_
    refine Wp.call rfl cqX12_gives (sX12_gives hw h20) (fun rv3 s3 hq3 => ?_)
    obtain ⟨rfl, hq3⟩ := hq3
    replace hq3 := hq3.symm
    subst hq3
    iterate 3 refine Wp.go rfl ?_
    refine Wp.call rfl cqX12_goesOn (sX12_goesOn hw h20) (fun rv4 s4 hq4 => ?_)
    obtain ⟨rfl, hq4⟩ := hq4
    replace hq4 := hq4.symm
    subst hq4
    refine Wp.go rfl ?_
    refine Wp.beqD (p := opA P i < 18) rfl (fun (h2 : ¬ (opA P i < 18)) => ?_) (fun (h2 : opA P i < 18) => ?_)
    · refine Wp.go rfl ?_
      refine Wp.call rfl cqX12_leads (sX12_leads hw h20) (fun rv5 s5 hq5 => ?_)
      obtain ⟨rfl, hq5⟩ := hq5
      replace hq5 := hq5.symm
      subst hq5
      refine Wp.go rfl ?_
      refine Wp.beqE rfl (fun (h3 : (decide (16 ≤ opA P i) && decide (opA P i ≤ 18)) = false) => ?_) (fun (h3 : (decide (16 ≤ opA P i) && decide (opA P i ≤ 18)) = true) => ?_)
      · refine Wp.ret rfl ?_
        refine ⟨rfl, ?_, ho⟩
        rw [if_pos h1]
        unfold hjA hgA
        rw [if_neg (show ¬ juA P i = true by unfold juA; rw [h3]; decide), if_neg (show ¬ goA P i = true from fun q => h2 (of_decide_eq_true q))]
        exact hZ
      · iterate 5 refine Wp.go rfl ?_
        refine Wp.go (if_pos ⟨rfl, rfl, (inE (n := 30) hx (by first | omega | (have := hfi (by assumption); omega)))⟩) ?_
        refine Wp.go rfl ?_
        refine Wp.call rfl cqX12_come (sX12_come (hP.o (cs := [177, 178]) (fs := []) (ho)) hn (hZ) hx (by first | omega | (have := hfi (by assumption); omega)) (rdE hx (by first | omega | (have := hfi (by assumption); omega)) (((hP.o (cs := [177, 178]) (fs := []) (ho)).nu (by first | omega | (have := hfi (by assumption); omega))).trans (hN3 (by assumption)).1)) (by first | omega | (have := (hN3 (by assumption)).2; omega)) (nE_add (nE_sub hy rfl (by first | omega | (have := hfi (by assumption); omega))) rfl) (by first | omega | (have := hfi (by assumption); omega))) (fun rv6 s6 hq6 => ?_)
        obtain ⟨rfl, hZ6, ho6⟩ := hq6
        refine Wp.ret rfl ?_
        refine ⟨rfl, ?_, (ho).tr ho6⟩
        rw [if_pos h1]
        unfold hjA hgA
        rw [if_pos (show juA P i = true from h3), if_neg (show ¬ goA P i = true from fun q => h2 (of_decide_eq_true q))]
        exact hZ6
    · iterate 6 refine Wp.go rfl ?_
      refine Wp.call rfl cqX12_come (sX12_come (hP.o (cs := [177, 178]) (fs := []) (ho)) hn (hZ) hx (by first | omega | (have := hfi (by assumption); omega)) (nE_add hx (rfl : _ = nI 1)) (by first | omega | (have := (hN3 (by assumption)).2; omega)) (nE_add (nE_sub hy rfl (by first | omega | (have := hfi (by assumption); omega))) rfl) (by first | omega | (have := hfi (by assumption); omega))) (fun rv7 s7 hq7 => ?_)
      obtain ⟨rfl, hZ7, ho7⟩ := hq7
      refine Wp.go rfl ?_
      refine Wp.call rfl cqX12_leads (sX12_leads hw h20) (fun rv8 s8 hq8 => ?_)
      obtain ⟨rfl, hq8⟩ := hq8
      replace hq8 := hq8.symm
      subst hq8
      refine Wp.go rfl ?_
      refine Wp.beqE rfl (fun (h4 : (decide (16 ≤ opA P i) && decide (opA P i ≤ 18)) = false) => ?_) (fun (h4 : (decide (16 ≤ opA P i) && decide (opA P i ≤ 18)) = true) => ?_)
      · refine Wp.ret rfl ?_
        refine ⟨rfl, ?_, (ho).tr ho7⟩
        rw [if_pos h1]
        unfold hjA hgA
        rw [if_neg (show ¬ juA P i = true by unfold juA; rw [h4]; decide), if_pos (show goA P i = true from decide_eq_true h2)]
        exact hZ7
      · iterate 5 refine Wp.go rfl ?_
        refine Wp.go (if_pos ⟨rfl, rfl, (inE (n := 30) hx (by first | omega | (have := hfi (by assumption); omega)))⟩) ?_
        refine Wp.go rfl ?_
        refine Wp.call rfl cqX12_come (sX12_come (hP.o (cs := [177, 178]) (fs := []) ((ho).tr ho7)) hn (hZ7) hx (by first | omega | (have := hfi (by assumption); omega)) (rdE hx (by first | omega | (have := hfi (by assumption); omega)) (((hP.o (cs := [177, 178]) (fs := []) ((ho).tr ho7)).nu (by first | omega | (have := hfi (by assumption); omega))).trans (hN3 (by assumption)).1)) (by first | omega | (have := (hN3 (by assumption)).2; omega)) (nE_add (nE_sub hy rfl (by first | omega | (have := hfi (by assumption); omega))) rfl) (by first | omega | (have := hfi (by assumption); omega))) (fun rv9 s9 hq9 => ?_)
        obtain ⟨rfl, hZ9, ho9⟩ := hq9
        refine Wp.ret rfl ?_
        refine ⟨rfl, ?_, ((ho).tr ho7).tr ho9⟩
        rw [if_pos h1]
        unfold hjA hgA
        rw [if_pos (show juA P i = true from h4), if_pos (show goA P i = true from decide_eq_true h2)]
        exact hZ9
  · iterate 4 refine Wp.go rfl ?_
    refine Wp.go (if_pos ⟨rfl, rfl, (inE (n := 30) hx (by first | omega | (have := hfi (by assumption); omega)))⟩) ?_
    iterate 2 refine Wp.go rfl ?_
    refine Wp.go (if_pos ⟨(show 178 < 187 by decide), rfl, (inE (n := 30) hx (by first | omega | (have := hfi (by assumption); omega)))⟩) ?_
    refine Wp.ret rfl ?_
    refine ⟨rfl, ?_, (ho).tr (mo.a _ (by decide) (by decide) _ _)⟩
    rw [if_neg (by rw [h1]; decide)]
    exact (hZ).f hx (by first | omega | (have := hfi (by assumption); omega)) (nE_or (rdE hx (by first | omega | (have := hfi (by assumption); omega)) ((hZ) i (by first | omega | (have := hfi (by assumption); omega))).2.2.1) (rfl : _ = nI 8)) (or_16 _ (hZ _ (by first | omega | (have := hfi (by assumption); omega))).2.2.2).2
set_option maxRecDepth 100000 in
theorem sX12_goAlong {P : pT} (hn : pn P ≤ 30 ∧ qn P ≤ 4) (hB : ∀ j, j < qn P → qf P j < qt P j ∧ qt P j ≤ 30 ∧ qa P j < 30 ∧ qk P j < 8) {σ0 : mc_G} (hP : cMP P σ0) (hN : pNum P) {i s : Nat} (hi : i < pn P) (hs : s ≤ 6) (h20 : opA P i ≤ 20) {x y : Int32} (hx : x = nI i) (hy : y = nI s) {Z : hS} {σ : mc_G} (hZ : mHF Z σ) (ho : mo [177, 178] [] σ0 σ) : Wp miX12_goAlong 0 [(0, .inr (some 167)), (1, .inl x), (2, .inl y)] [] σ (fun rv σ' => rv = none ∧ mHF (haA P Z i s) σ' ∧ mo [177, 178] [] σ0 σ') := by
  have hn30 := hn.1
  iterate 3 refine Wp.go rfl ?_
  refine Wp.go (if_pos ⟨rfl, rfl, (inE (n := 30) hx (by omega))⟩) ?_
  iterate 3 refine Wp.go rfl ?_
  refine Wp.lo (lo := [(0, .inr (some 167)), (1, .inl _), (2, .inl _), (3, .inl _), (4, .inl _)]) ⟨rfl, rfl, rfl, rfl, rfl, trivial⟩ ?_
  refine lX12_gaH hn hB hP hi hs hx hy (rdE hx (by omega) ((hP.o ho).op hi)) (qn P) 0 _ Z σ (rfl : _ = nI 0) (by omega) hZ ho (fun z1 σ1 a1 a2 => ?_)
  exact lX12_gaT hn hB hP hN hi hs h20 hx hy (rdE hx (by omega) ((hP.o ho).op hi)) a1 a2
theorem bN_t {b : Bool} (h : bN b = 1) : b = true := by cases b; cases h; rfl
theorem bN_f {b : Bool} (h : ¬ bN b = 1) : ¬ b = true := fun q => h (by rw [q]; rfl)
theorem op_20' {P : pT} (h : ∀ k, k < pn P → po P k ≤ 20) (k : Nat) : opA P k ≤ 20 := by
  unfold opA; split
  · next q => exact h k q
  · decide
set_option maxRecDepth 100000 in
theorem lX12_wkS {P : pT} (hn : pn P ≤ 30 ∧ qn P ≤ 4) (hB : ∀ j, j < qn P → qf P j < qt P j ∧ qt P j ≤ 30 ∧ qa P j < 30 ∧ qk P j < 8) {σ0 : mc_G} (hP : cMP P σ0) (hN : pNum P) (hp20 : ∀ k, k < pn P → po P k ≤ 20) {i : Nat} (hi : i < pn P) {x y : Int32} (hy : y = nI i) {Φ : Option mc_V → mc_G → Prop} : ∀ (n s : Nat) (z : Int32) (Z : hS) (σ : mc_G), z = nI s → s + n = 7 → mHF Z σ → mo [177, 178] [] σ0 σ → (∀ (z1 : Int32) (σ1 : mc_G), mHF (foR (hmA P i) n s Z) σ1 → mo [177, 178] [] σ0 σ1 → Wp miX12_walk 102 [(0, .inr (some 167)), (1, .inl x), (2, .inl y), (3, .inl z1)] [] σ1 Φ) → Wp miX12_walk 70 [(0, .inr (some 167)), (1, .inl (x)), (2, .inl y), (3, .inl z)] [] σ Φ := by
  obtain ⟨hn, hq4⟩ := hn
  have h20 := op_20' hp20 i
  intro n
  induction n with
  | zero =>
    intro s z Z σ hz hj hZ ho kk
    iterate 3 refine Wp.go rfl ?_
    refine Wp.gtN (a := s) (b := 6) hz (rfl : _ = nI 6) (by omega) (by omega) (fun (h1 : 6 < s) => ?_) (fun (h1 : ¬ 6 < s) => by omega)
    exact kk z σ hZ ho
  | succ n ih =>
    intro s z Z σ hz hj hZ ho kk
    iterate 3 refine Wp.go rfl ?_
    refine Wp.gtN (a := s) (b := 6) hz (rfl : _ = nI 6) (by first | omega | exact bN_lt _) (by first | omega | exact bN_lt _) (fun (h1 : 6 < s) => ?_) (fun (h1 : ¬ 6 < s) => ?_)
    · exfalso; omega
    · iterate 3 refine Wp.go rfl ?_
      refine Wp.go (if_pos ⟨rfl, rfl, (inE (n := 30) hy (by first | omega | exact bN_lt _))⟩) ?_
      iterate 6 refine Wp.go rfl ?_
      refine Wp.neN (a := bN ((Z.1 i).testBit s)) (b := 1) ((iE_and (iE_shr (rdE hy (by first | omega | exact bN_lt _) ((hZ) i (by omega)).1) hz) (rfl : _ = nI 1)).trans (sh_bit _ (hZ i (by omega)).2.1 s (by omega))) (rfl : _ = nI 1) (by first | omega | exact bN_lt _) (by first | omega | exact bN_lt _) (fun (h2 : ¬ bN ((Z.1 i).testBit s) = 1) => ?_) (fun (h2 : bN ((Z.1 i).testBit s) = 1) => ?_)
      · iterate 2 refine Wp.go rfl ?_
        refine Wp.lo (lo := [(0, .inr (some 167)), (1, .inl _), (2, .inl _), (3, .inl _)]) ⟨rfl, rfl, rfl, rfl, trivial⟩ ?_
        have e1 : hmA P i Z s = Z := by unfold hmA; rw [if_neg (bN_f (by omega))]
        exact ih (s + 1) _ (hmA P i Z s) σ (nE_add hz (rfl : _ = nI 1)) (by omega) (by rw [e1]; exact hZ) ho kk
      · iterate 3 refine Wp.go rfl ?_
        refine Wp.call rfl cqX12_goAlong (sX12_goAlong ⟨hn, hq4⟩ hB hP hN hi (by omega) h20 hy hz hZ ho) (fun rv1 s1 hq1 => ?_)
        obtain ⟨rfl, hZ1, ho1⟩ := hq1
        iterate 2 refine Wp.go rfl ?_
        refine Wp.lo (lo := [(0, .inr (some 167)), (1, .inl _), (2, .inl _), (3, .inl _)]) ⟨rfl, rfl, rfl, rfl, trivial⟩ ?_
        have e1 : hmA P i Z s = haA P Z i s := by unfold hmA; rw [if_pos (bN_t (by omega))]
        rw [← e1] at hZ1
        exact ih (s + 1) _ _ _ (nE_add hz (rfl : _ = nI 1)) (by omega) hZ1 ho1 kk
set_option maxRecDepth 100000 in
theorem lX12_wkI {P : pT} (hn : pn P ≤ 30 ∧ qn P ≤ 4) (hB : ∀ j, j < qn P → qf P j < qt P j ∧ qt P j ≤ 30 ∧ qa P j < 30 ∧ qk P j < 8) {σ0 : mc_G} (hP : cMP P σ0) (hN : pNum P) (hp20 : ∀ k, k < pn P → po P k ≤ 20) {x : Int32} {Φ : Option mc_V → mc_G → Prop} : ∀ (n i : Nat) (y : Int32) (Z : hS) (σ : mc_G), y = nI i → i + n = pn P → mHF Z σ → mo [177, 178] [] σ0 σ → (∀ (y1 : Int32) (σ1 : mc_G), mHF (foR (hiA P) n i Z) σ1 → mo [177, 178] [] σ0 σ1 → Wp miX12_walk 108 [(0, .inr (some 167)), (1, .inl x), (2, .inl y1)] [] σ1 Φ) → Wp miX12_walk 60 [(0, .inr (some 167)), (1, .inl x), (2, .inl y)] [] σ Φ := by
  have hn30 := hn.1
  intro n
  induction n with
  | zero =>
    intro i y Z σ hy hj hZ ho kk
    iterate 4 refine Wp.go rfl ?_
    refine Wp.geN (a := i) (b := pn P) hy (hP.o ho).1 (by omega) (by omega) (fun (h1 : ¬ i < pn P) => ?_) (fun (h1 : i < pn P) => by omega)
    exact kk y σ hZ ho
  | succ n ih =>
    intro i y Z σ hy hj hZ ho kk
    iterate 4 refine Wp.go rfl ?_
    refine Wp.geN (a := i) (b := pn P) hy (hP.o ho).1 (by omega) (by omega) (fun (h1 : ¬ i < pn P) => by omega) (fun (h1 : i < pn P) => ?_)
    iterate 2 refine Wp.go rfl ?_
    refine Wp.lo (lo := [(0, .inr (some 167)), (1, .inl _), (2, .inl _), (3, .inl _)]) ⟨rfl, rfl, rfl, rfl, trivial⟩ ?_
    refine lX12_wkS hn hB hP hN hp20 h1 hy 7 0 _ Z σ (rfl : _ = nI 0) (by decide) hZ ho (fun z1 σ1 a1 a2 => ?_)
    iterate 2 refine Wp.go rfl ?_
    refine Wp.lo (lo := [(0, .inr (some 167)), (1, .inl _), (2, .inl _)]) ⟨rfl, rfl, rfl, trivial⟩ ?_
    exact ih (i + 1) _ (hiA P Z i) σ1 (nE_add hy (rfl : _ = nI 1)) (by omega) a1 a2 kk
set_option maxRecDepth 100000 in
theorem lX12_wkP {P : pT} (hn : pn P ≤ 30 ∧ qn P ≤ 4) (hB : ∀ j, j < qn P → qf P j < qt P j ∧ qt P j ≤ 30 ∧ qa P j < 30 ∧ qk P j < 8) {σ0 : mc_G} (hP : cMP P σ0) (hN : pNum P) (hp20 : ∀ k, k < pn P → po P k ≤ 20) : ∀ (n p : Nat) (x : Int32) (Z : hS) (σ : mc_G), x = nI p → p + n = 220 → mHF Z σ → mo [177, 178] [] σ0 σ → Wp miX12_walk 51 [(0, .inr (some 167)), (1, .inl x)] [] σ (fun rv σ' => rv = some (.inl (bI true)) ∧ mHF (foR (hpA P) n p Z) σ' ∧ mo [177, 178] [] σ0 σ') := by
  have hn30 := hn.1
  intro n
  induction n with
  | zero =>
    intro p x Z σ hx hp hZ ho
    iterate 3 refine Wp.go rfl ?_
    refine Wp.geN (a := p) (b := 220) hx (rfl : _ = nI 220) (by omega) (by omega) (fun (h1 : ¬ p < 220) => ?_) (fun (h1 : p < 220) => by omega)
    refine Wp.go rfl ?_
    refine Wp.ret rfl ?_
    exact ⟨rfl, hZ, ho⟩
  | succ n ih =>
    intro p x Z σ hx hp hZ ho
    iterate 3 refine Wp.go rfl ?_
    refine Wp.geN (a := p) (b := 220) hx (rfl : _ = nI 220) (by omega) (by omega) (fun (h1 : ¬ p < 220) => by omega) (fun (h1 : p < 220) => ?_)
    iterate 2 refine Wp.go rfl ?_
    refine Wp.lo (lo := [(0, .inr (some 167)), (1, .inl _), (2, .inl _)]) ⟨rfl, rfl, rfl, trivial⟩ ?_
    refine lX12_wkI hn hB hP hN hp20 (pn P) 0 _ Z σ (rfl : _ = nI 0) (by omega) hZ ho (fun y1 σ1 a1 a2 => ?_)
    iterate 2 refine Wp.go rfl ?_
    refine Wp.lo (lo := [(0, .inr (some 167)), (1, .inl _)]) ⟨rfl, rfl, trivial⟩ ?_
    exact ih (p + 1) _ (hpA P Z p) σ1 (nE_add hx (rfl : _ = nI 1)) (by omega) a1 a2
theorem wz {σ : mc_G} {p : Int32} {k : Nat} (h : ∀ j, j < k → σ 177 j = nI 0 ∧ σ 178 j = nI 0) (hp : p = nI k) (hk : k < 30) : ∀ j, j < k + 1 → mc_up (mc_up σ 177 p.toNatClampNeg 0) 178 p.toNatClampNeg 0 177 j = nI 0 ∧ mc_up (mc_up σ 177 p.toNatClampNeg 0) 178 p.toNatClampNeg 0 178 j = nI 0 := by
  intro j hj
  rw [clE hp (by omega)]
  constructor
  · rw [mc_upn _ _ _ (by decide), upj]
    by_cases q : j = k
    · rw [if_pos q]; rfl
    · rw [if_neg q]; exact (h j (by omega)).1
  · rw [upj, mc_upn _ _ _ (by decide)]
    by_cases q : j = k
    · rw [if_pos q]; rfl
    · rw [if_neg q]; exact (h j (by omega)).2
set_option maxRecDepth 100000 in
theorem lX12_wk0 {Φ : Option mc_V → mc_G → Prop} : ∀ (n i : Nat) (z : Int32) (σ : mc_G), z = nI i → i ≤ 30 → 30 - i < n → (∀ j, j < i → σ 177 j = nI 0 ∧ σ 178 j = nI 0) → (∀ (z1 : Int32) (σ1 : mc_G), mHF ((fun _ => 0), (fun _ => 0)) σ1 → mo [177, 178] [] σ σ1 → Wp miX12_walk 28 [(0, .inr (some 167)), (1, .inl z1)] [] σ1 Φ) → Wp miX12_walk 2 [(0, .inr (some 167)), (1, .inl z)] [] σ Φ := by
  intro n
  induction n with
  | zero => intro i z σ hz hi h; omega
  | succ n ih =>
    intro i z σ hz hi hn hA kk
    iterate 3 refine Wp.go rfl ?_
    refine Wp.geN (a := i) (b := 30) hz (rfl : _ = nI 30) (by omega) (by omega) (fun (h1 : ¬ i < 30) => ?_) (fun (h1 : i < 30) => ?_)
    · exact kk z σ (fun j hj => ⟨(hA j (by omega)).1, by show 0 < 128; decide, (hA j (by omega)).2, by show 0 < 16; decide⟩) mo.rf
    · iterate 4 refine Wp.go rfl ?_
      refine Wp.go (if_pos ⟨(show 177 < 187 by decide), rfl, (inE (n := 30) hz (by omega))⟩) ?_
      iterate 4 refine Wp.go rfl ?_
      refine Wp.go (if_pos ⟨(show 178 < 187 by decide), rfl, (inE (n := 30) hz (by omega))⟩) ?_
      iterate 2 refine Wp.go rfl ?_
      refine Wp.lo (lo := [(0, .inr (some 167)), (1, .inl _)]) ⟨rfl, rfl, trivial⟩ ?_
      refine ih (i + 1) _ _ (nE_add hz (rfl : _ = nI 1)) (by omega) (by omega) (wz hA hz (by omega)) (fun z1 σ1 a1 a2 => kk z1 σ1 a1 (((mo.a _ (by decide) (by decide) _ _).tr (mo.a _ (by decide) (by decide) _ _)).tr a2))
theorem up_14 {σ : mc_G} {v : Int32} : mc_up σ 167 14 v 167 14 = v := by rw [upj, if_pos rfl]
set_option maxRecDepth 100000 in
theorem sX12_walk {P : pT} (hn : pn P ≤ 30 ∧ qn P ≤ 4) (hB : ∀ j, j < qn P → qf P j < qt P j ∧ qt P j ≤ 30 ∧ qa P j < 30 ∧ qk P j < 8) {σ0 : mc_G} (hP : cMP P σ0) (hN : pNum P) (hp20 : ∀ k, k < pn P → po P k ≤ 20) : Wp miX12_walk 0 [(0, .inr (some 167))] [] σ0 (fun rv σ' => if pn P = 0 then rv = some (.inl (bI false)) ∧ σ' 167 14 = nI 1 ∧ mo [177, 178] [14] σ0 σ' else rv = some (.inl (bI true)) ∧ mHF (foR (hpA P) 220 0 h0A) σ' ∧ mo [177, 178] [] σ0 σ') := by
  have hn30 := hn.1
  iterate 2 refine Wp.go rfl ?_
  refine Wp.lo (lo := [(0, .inr (some 167)), (1, .inl _)]) ⟨rfl, rfl, trivial⟩ ?_
  refine lX12_wk0 31 0 _ σ0 (rfl : _ = nI 0) (by decide) (by decide) (fun j hj => by omega) (fun z1 σ1 a1 a2 => ?_)
  iterate 3 refine Wp.go rfl ?_
  refine Wp.neN (a := pn P) (b := 0) (hP.o a2).1 (rfl : _ = nI 0) (by omega) (by omega) (fun (h1 : ¬ pn P = 0) => ?_) (fun (h1 : pn P = 0) => ?_)
  · iterate 4 refine Wp.go rfl ?_
    refine Wp.go rfl ?_
    iterate 2 refine Wp.go rfl ?_
    refine Wp.lo (lo := [(0, .inr (some 167)), (1, .inl _)]) ⟨rfl, rfl, trivial⟩ ?_
    refine (lX12_wkP hn hB hP hN hp20 220 0 _ h0A _ (rfl : _ = nI 0) (by decide) (a1.h (q := 1) (rfl : _ = nI 0) (by decide) rfl (by decide)) (a2.tr (mo.a _ (by decide) (by decide) _ _))).mono (fun rv σ' q => ?_)
    rw [if_neg h1]
    exact q
  · iterate 4 refine Wp.go rfl ?_
    refine Wp.ret rfl ?_
    rw [if_pos h1]
    exact ⟨rfl, up_14, (a2.wi (by decide) (by decide)).tr (mo.f _ (by decide) _)⟩
theorem ff_and : ∀ m, m < 128 → (nI m &&& (nI m - nI 1) = nI 0 ↔ ¬ 1 < pcA m) := by decide +kernel
theorem f2_t : ∀ m, m < 16 → (m &&& 2 = 0 ↔ m.testBit 1 = false) ∧ m &&& 2 < 16 := by decide +kernel
theorem f8_t : ∀ m, m < 16 → (m &&& 8 = 0 ↔ m.testBit 3 = false) ∧ m &&& 8 < 16 := by decide +kernel
def hfA (Z : hS) (i : Nat) : Nat := if (Z.2 i).testBit 1 = true then 1 else if 1 < pcA (Z.1 i) then 2 else if (Z.2 i).testBit 3 = true then 3 else 0
set_option maxRecDepth 100000 in
theorem sX12_faultOf {Z : hS} {σ : mc_G} (hZ : mHF Z σ) {x : Int32} {i : Nat} (hx : x = nI i) (hi : i < 30) : Wp miX12_faultOf 0 [(0, .inr (some 167)), (1, .inl x)] [] σ (fun rv σ' => rv = some (.inl (nI (hfA Z i))) ∧ σ' = σ) := by
  have hf2 := f2_t (Z.2 i) (hZ i hi).2.2.2
  have hf8 := f8_t (Z.2 i) (hZ i hi).2.2.2
  have hfa := ff_and (Z.1 i) (hZ i hi).2.1
  iterate 3 refine Wp.go rfl ?_
  refine Wp.go (if_pos ⟨rfl, rfl, (inE (n := 30) hx (by omega))⟩) ?_
  iterate 3 refine Wp.go rfl ?_
  refine Wp.eqN (a := (Z.2 i) &&& 2) (b := 0) (nE_and (rdE hx (by omega) ((hZ) i (by omega)).2.2.1) (rfl : _ = nI 2)) (rfl : _ = nI 0) (by omega) (by omega) (fun (h1 : (Z.2 i) &&& 2 = 0) => ?_) (fun (h1 : ¬ (Z.2 i) &&& 2 = 0) => ?_)
  · iterate 3 refine Wp.go rfl ?_
    refine Wp.go (if_pos ⟨rfl, rfl, (inE (n := 30) hx (by omega))⟩) ?_
    iterate 3 refine Wp.go rfl ?_
    refine Wp.go (if_pos ⟨rfl, rfl, (inE (n := 30) hx (by omega))⟩) ?_
    iterate 4 refine Wp.go rfl ?_
    refine Wp.neI (iE_and (rdE hx (by omega) ((hZ) i (by omega)).1) (iE_sub (rdE hx (by omega) ((hZ) i (by omega)).1) (rfl : _ = nI 1))) (rfl : _ = nI 0) (fun (h2 : ¬ (nI (Z.1 i)) &&& (nI (Z.1 i) - nI 1) = nI 0) => ?_) (fun (h2 : (nI (Z.1 i)) &&& (nI (Z.1 i) - nI 1) = nI 0) => ?_)
    · iterate 4 refine Wp.go rfl ?_
      refine Wp.neN (a := 0) (b := 0) (rfl : _ = nI 0) (rfl : _ = nI 0) (by decide) (by decide) (fun q => absurd q (by decide)) (fun _ => ?_)
      iterate 2 refine Wp.go rfl ?_
      refine Wp.ret rfl ?_
      exact ⟨rvN (rfl : _ = nI 2) (by unfold hfA; have a1 := hf2; have a2 := hf8; have a3 := hfa; simp_all), rfl⟩
    · iterate 5 refine Wp.go rfl ?_
      refine Wp.neN (a := 1) (b := 0) (rfl : _ = nI 1) (rfl : _ = nI 0) (by decide) (by decide) (fun _ => ?_) (fun q => absurd q (by decide))
      iterate 3 refine Wp.go rfl ?_
      refine Wp.go (if_pos ⟨rfl, rfl, (inE (n := 30) hx (by omega))⟩) ?_
      iterate 3 refine Wp.go rfl ?_
      refine Wp.eqN (a := (Z.2 i) &&& 8) (b := 0) (nE_and (rdE hx (by omega) ((hZ) i (by omega)).2.2.1) (rfl : _ = nI 8)) (rfl : _ = nI 0) (by omega) (by omega) (fun (h5 : (Z.2 i) &&& 8 = 0) => ?_) (fun (h5 : ¬ (Z.2 i) &&& 8 = 0) => ?_)
      · refine Wp.go rfl ?_
        refine Wp.ret rfl ?_
        exact ⟨rvN (rfl : _ = nI 0) (by unfold hfA; have a1 := hf2; have a2 := hf8; have a3 := hfa; simp_all), rfl⟩
      · iterate 2 refine Wp.go rfl ?_
        refine Wp.ret rfl ?_
        exact ⟨rvN (rfl : _ = nI 3) (by unfold hfA; have a1 := hf2; have a2 := hf8; have a3 := hfa; simp_all), rfl⟩
  · refine Wp.go rfl ?_
    refine Wp.ret rfl ?_
    exact ⟨rvN (rfl : _ = nI 1) (by unfold hfA; have a1 := hf2; have a2 := hf8; have a3 := hfa; simp_all), rfl⟩

/-! the reference's settle -/
def n0A : sS := ((fun _ => (0, fun _ => 0)), (fun _ => false), (fun _ => false), false, (0, fun _ => 0))
def hB (h : Nat → Nat) (rc : Nat → Bool) (σ : mc_G) : Prop := ∀ i, rc i = true → ∃ m, σ 177 i = nI m ∧ m < 128 ∧ hiO m = h i
theorem hB.o {h : Nat → Nat} {rc : Nat → Bool} {σ σ' : mc_G} {cs fs : List Nat} (k : hB h rc σ) (o : mo cs fs σ σ') (h1 : ¬ 177 ∈ cs := by decide) : hB h rc σ' := by
  unfold hB; rw [o.1 177 (by decide) h1]; exact k
theorem sbA_1 {P : pT} {T : tT} {S : sS} {i : Nat} (h : S.2.1 i = true) : sbA P T S i = brA P T S i := by unfold sbA; rw [if_pos h]
theorem sbA_0 {P : pT} {T : tT} {S : sS} {i : Nat} (h : S.2.1 i = false) : sbA P T S i = S := by unfold sbA; rw [if_neg (by rw [h]; decide)]
set_option maxRecDepth 100000 in
theorem lX12_stR {P : pT} {T : tT} {h : Nat → Nat} {rc : Nat → Bool} (hG : pG P T) (hH : pH P h rc) {I : sS → Prop} (hI1 : ∀ S, I S → nOk P T h rc S) (hI2 : ∀ S i, I S → i < 30 → S.2.1 i = true → I (brA P T S i)) {σ0 : mc_G} (hP : cMP P σ0) (hT : cMT T σ0) (hh : hB h rc σ0) {Φ : Option mc_V → mc_G → Prop} : ∀ (n i : Nat) (y z : Int32) (S : sS) (σ : mc_G), z = nI i → i + n = pn P → y = bI S.2.2.2.1 → mSt S σ → I S → mo [179, 180, 181] [20] σ0 σ → (∀ (y1 z1 : Int32) (σ1 : mc_G), y1 = bI (foR (sbA P T) n i S).2.2.2.1 → mSt (foR (sbA P T) n i S) σ1 → I (foR (sbA P T) n i S) → mo [179, 180, 181] [20] σ0 σ1 → Wp miX12_settle 97 [(0, .inr (some 167)), (1, .inl y1), (2, .inl z1)] [] σ1 Φ) → Wp miX12_settle 66 [(0, .inr (some 167)), (1, .inl y), (2, .inl z)] [] σ Φ := by
  intro n
  induction n with
  | zero =>
    intro i y z S σ hz hi hy hS hI ho kk
    have hn30 := hG.2.1.1
    iterate 4 refine Wp.go rfl ?_
    refine Wp.geN (a := i) (b := pn P) hz (hP.o ho).1 (by omega) (by omega) (fun (h1 : ¬ i < pn P) => ?_) (fun (h1 : i < pn P) => by omega)
    exact kk y z σ hy hS hI ho
  | succ n ih =>
    intro i y z S σ hz hi hy hS hI ho kk
    have hn30 := hG.2.1.1
    iterate 4 refine Wp.go rfl ?_
    refine Wp.geN (a := i) (b := pn P) hz (hP.o ho).1 (by omega) (by omega) (fun (h1 : ¬ i < pn P) => ?_) (fun (h1 : i < pn P) => ?_)
    · exfalso; omega
    · iterate 3 refine Wp.go rfl ?_
      refine Wp.go (if_pos ⟨rfl, rfl, (inE (n := 30) hz (by omega))⟩) ?_
      refine Wp.go rfl ?_
      refine Wp.beqE (rdE hz (by omega) (hS i (by omega)).1) (fun (h2 : (S.2.1 i) = false) => ?_) (fun (h2 : (S.2.1 i) = true) => ?_)
      · iterate 2 refine Wp.go rfl ?_
        refine Wp.lo (lo := [(0, .inr (some 167)), (1, .inl _), (2, .inl _)]) ⟨rfl, rfl, rfl, trivial⟩ ?_
        refine ih (i + 1) _ _ S _ (nE_add hz (rfl : _ = nI 1)) (by omega) hy hS hI ho (fun y1 z1 σ1 a1 a2 a3 a4 => ?_)
        have e1 : foR (sbA P T) (n + 1) i S = foR (sbA P T) n (i + 1) S := by show foR _ n (i + 1) (sbA P T S i) = _; rw [sbA_0 h2]
        rw [e1] at kk
        exact kk y1 z1 σ1 a1 a2 a3 a4
      · obtain ⟨m, hm1, hm2, hm3⟩ := (hh.o ho) i (hI1 S hI i h2).1
        iterate 3 refine Wp.go rfl ?_
        refine Wp.call rfl cqX12_bring (sX12_bring hG hH hz (hP.o ho) (hT.o ho) hS (hI1 S hI) h2 hm1 hm2 hm3) (fun rv1 s1 hq1 => ?_)
        obtain ⟨b1, rfl, hS1, hf1, ho1⟩ := hq1
        iterate 4 refine Wp.go rfl ?_
        refine Wp.lo (lo := [(0, .inr (some 167)), (1, .inl _), (2, .inl _)]) ⟨rfl, rfl, rfl, trivial⟩ ?_
        refine ih (i + 1) _ _ (brA P T S i) _ (nE_add hz (rfl : _ = nI 1)) (by omega) ((bE_or hy rfl).trans (by rw [hf1])) hS1 (hI2 S i hI (by omega) h2) (ho.tr ho1) (fun y1 z1 σ1 a1 a2 a3 a4 => ?_)
        have e1 : foR (sbA P T) (n + 1) i S = foR (sbA P T) n (i + 1) (brA P T S i) := by show foR _ n (i + 1) (sbA P T S i) = _; rw [sbA_1 h2]
        rw [e1] at kk
        exact kk y1 z1 σ1 a1 a2 a3 a4
set_option maxRecDepth 100000 in
theorem lX12_stW {P : pT} {T : tT} {h : Nat → Nat} {rc : Nat → Bool} (hG : pG P T) (hH : pH P h rc) {I : sS → Prop} (hI1 : ∀ S, I S → nOk P T h rc S) (hI2 : ∀ S i, I S → i < 30 → S.2.1 i = true → I (brA P T S i)) (hI3 : ∀ S, I S → I (S.1, S.2.1, S.2.2.1, false, S.2.2.2.2)) {μ : sS → Nat} (hμ : ∀ S, I S → (rbA P T S).2.2.2.1 = true → μ (rbA P T S) < μ S) {σ0 : mc_G} (hP : cMP P σ0) (hT : cMT T σ0) (hh : hB h rc σ0) : ∀ (N : Nat) (y : Int32) (S : sS) (σ : mc_G), μ S < N → y = bI S.2.2.2.1 → mSt S σ → I S → (S.2.2.2.1 = false → ∃ S1, I S1 ∧ S = rbA P T S1) → mo [179, 180, 181] [20] σ0 σ → Wp miX12_settle 58 [(0, .inr (some 167)), (1, .inl y)] [] σ (fun rv σ' => rv = none ∧ ∃ S1 S2, I S1 ∧ I S2 ∧ S2 = rbA P T S1 ∧ S2.2.2.2.1 = false ∧ mSt S2 σ' ∧ mo [179, 180, 181] [20] σ0 σ') := by
  intro N
  induction N with
  | zero => intro y S σ h; omega
  | succ N ih =>
    intro y S σ hN hy hS hI hQ ho
    iterate 2 refine Wp.go rfl ?_
    refine Wp.beqE hy (fun h1 => ?_) (fun h1 => ?_)
    · refine Wp.ret rfl ?_
      obtain ⟨S1, a1, a2⟩ := hQ h1
      exact ⟨rfl, S1, S, a1, hI, a2, h1, hS, ho⟩
    · iterate 4 refine Wp.go rfl ?_
      refine Wp.lo (lo := [(0, .inr (some 167)), (1, .inl _), (2, .inl _)]) ⟨rfl, rfl, rfl, trivial⟩ ?_
      refine lX12_stR hG hH hI1 hI2 hP hT hh (pn P) 0 _ _ (S.1, S.2.1, S.2.2.1, false, S.2.2.2.2) σ (rfl : _ = nI 0) (by omega) rfl hS (hI3 S hI) ho (fun y1 z1 σ1 a1 a2 a3 a4 => ?_)
      refine Wp.go rfl ?_
      refine Wp.lo (lo := [(0, .inr (some 167)), (1, .inl _)]) ⟨rfl, rfl, trivial⟩ ?_
      have e1 : foR (sbA P T) (pn P) 0 (S.1, S.2.1, S.2.2.1, false, S.2.2.2.2) = rbA P T S := rfl
      rw [e1] at a1 a2 a3
      by_cases hf : (rbA P T S).2.2.2.1 = true
      · exact ih y1 (rbA P T S) σ1 (by have := hμ S hI hf; omega) a1 a2 a3 (fun q => by rw [hf] at q; cases q) a4
      · have hf' : (rbA P T S).2.2.2.1 = false := by simpa using hf
        iterate 2 refine Wp.go rfl ?_
        refine Wp.beqE a1 (fun h2 => ?_) (fun h2 => absurd h2 hf)
        refine Wp.ret rfl ?_
        exact ⟨rfl, S, rbA P T S, hI, a3, rfl, hf', a2, a4⟩
set_option maxRecDepth 100000 in
theorem lX12_stA {Φ : Option mc_V → mc_G → Prop} : ∀ (n i : Nat) (z : Int32) (σ : mc_G), z = nI i → i ≤ 30 → 30 - i < n → (∀ j, j < i → σ 180 j = bI false) → (∀ (z1 : Int32) (σ1 : mc_G), mSt n0A σ1 → mo [180] [] σ σ1 → Wp miX12_settle 21 [(0, .inr (some 167)), (1, .inl z1)] [] σ1 Φ) → Wp miX12_settle 2 [(0, .inr (some 167)), (1, .inl z)] [] σ Φ := by
  intro n
  induction n with
  | zero => intro i z σ hz hi h; omega
  | succ n ih =>
    intro i z σ hz hi hn hA kk
    iterate 3 refine Wp.go rfl ?_
    refine Wp.geN (a := i) (b := 30) hz (rfl : _ = nI 30) (by omega) (by omega) (fun (h1 : ¬ i < 30) => ?_) (fun (h1 : i < 30) => ?_)
    · exact kk z σ (fun j hj => ⟨hA j (by omega), fun q => by cases q⟩) mo.rf
    · iterate 4 refine Wp.go rfl ?_
      refine Wp.go (if_pos ⟨(show 180 < 187 by decide), rfl, (inE (n := 30) hz (by omega)), Or.inl rfl⟩) ?_
      iterate 2 refine Wp.go rfl ?_
      refine Wp.lo (lo := [(0, .inr (some 167)), (1, .inl _)]) ⟨rfl, rfl, trivial⟩ ?_
      refine ih (i + 1) _ _ (nE_add hz (rfl : _ = nI 1)) (by omega) (by omega) (fun j hj => ?_) (fun z1 σ1 a1 a2 => kk z1 σ1 a1 ((mo.a _ (by decide) (by decide) _ _).tr a2))
      rw [clE hz (by omega), upj]
      by_cases q : j = i
      · rw [if_pos q]; rfl
      · rw [if_neg q]; exact hA j (by omega)
theorem uHd {σ : mc_G} {p v : Int32} {k : Nat} {f : Nat → Nat} (h : arP 181 k f σ) (hp : p = nI k) (hk : k < 14) (hv : v = nI (f k)) (hb : f k < 300) : arP 181 (k + 1) f (mc_up σ 181 p.toNatClampNeg v) := by
  intro j hj
  rw [clE hp (by omega), upj]
  by_cases q : j = k
  · rw [if_pos q, q]; exact ⟨hv, hb⟩
  · rw [if_neg q]; exact h j (by omega)
set_option maxRecDepth 100000 in
theorem lX12_stB {B : cS} {Φ : Option mc_V → mc_G → Prop} : ∀ (n i : Nat) (z : Int32) (σ : mc_G), z = nI i → i ≤ 8 → 8 - i < n → cMB B σ → arP 181 i B.2 σ → (∀ (z1 : Int32) (σ1 : mc_G), arP 181 8 B.2 σ1 → mo [181] [] σ σ1 → Wp miX12_settle 47 [(0, .inr (some 167)), (1, .inl z1)] [] σ1 Φ) → Wp miX12_settle 23 [(0, .inr (some 167)), (1, .inl z)] [] σ Φ := by
  intro n
  induction n with
  | zero => intro i z σ hz hi h; omega
  | succ n ih =>
    intro i z σ hz hi hn hB hA kk
    iterate 3 refine Wp.go rfl ?_
    refine Wp.geN (a := i) (b := 8) hz (rfl : _ = nI 8) (by omega) (by omega) (fun (h1 : ¬ i < 8) => ?_) (fun (h1 : i < 8) => ?_)
    · exact kk z σ (fun j hj => hA j (by omega)) mo.rf
    · iterate 6 refine Wp.go rfl ?_
      refine Wp.go (if_pos ⟨rfl, rfl, (inE (n := 8) hz (by omega))⟩) ?_
      refine Wp.go (if_pos ⟨(show 181 < 187 by decide), rfl, (inE (n := 14) hz (by omega))⟩) ?_
      iterate 2 refine Wp.go rfl ?_
      refine Wp.lo (lo := [(0, .inr (some 167)), (1, .inl _)]) ⟨rfl, rfl, trivial⟩ ?_
      refine ih (i + 1) _ _ (nE_add hz (rfl : _ = nI 1)) (by omega) (by omega) (hB.o (mo.a (cs := [181]) (fs := []) _ (by decide) (by decide) _ _)) (uHd hA hz (by omega) (rdE hz (by omega) (hB i (by omega)).1) (hB i (by omega)).2) (fun z1 σ1 a1 a2 => kk z1 σ1 a1 ((mo.a _ (by decide) (by decide) _ _).tr a2))
set_option maxRecDepth 100000 in
theorem sX12_settle {P : pT} {T : tT} {h : Nat → Nat} {rc : Nat → Bool} (hG : pG P T) (hH : pH P h rc) {I : sS → Prop} (hI1 : ∀ S, I S → nOk P T h rc S) (hI2 : ∀ S i, I S → i < 30 → S.2.1 i = true → I (brA P T S i)) (hI3 : ∀ S, I S → I (S.1, S.2.1, S.2.2.1, false, S.2.2.2.2)) {μ : sS → Nat} (hμ : ∀ S, I S → (rbA P T S).2.2.2.1 = true → μ (rbA P T S) < μ S) {σ0 : mc_G} (hP : cMP P σ0) (hT : cMT T σ0) (hh : hB h rc σ0) {B : cS} (hB0 : cMB B σ0) (hB1 : B.1 = 0) (hBg : gC P T B) (hI0 : I (mtA T (pn P) n0A 0 B)) : Wp miX12_settle 0 [(0, .inr (some 167))] [] σ0 (fun rv σ' => rv = none ∧ ∃ S1 S2, I S1 ∧ I S2 ∧ S2 = rbA P T S1 ∧ S2.2.2.2.1 = false ∧ mSt S2 σ' ∧ mo [179, 180, 181] [20] σ0 σ') := by
  have hn0 := (hH.2.2 0 hH.1).1
  have hn30 := hG.2.1.1
  iterate 2 refine Wp.go rfl ?_
  refine Wp.lo (lo := [(0, .inr (some 167)), (1, .inl _)]) ⟨rfl, rfl, trivial⟩ ?_
  refine lX12_stA 31 0 _ σ0 (rfl : _ = nI 0) (by decide) (by decide) (fun j hj => by omega) (fun z1 σ1 a1 a2 => ?_)
  iterate 2 refine Wp.go rfl ?_
  refine Wp.lo (lo := [(0, .inr (some 167)), (1, .inl _)]) ⟨rfl, rfl, trivial⟩ ?_
  refine lX12_stB (B := B) 9 0 _ σ1 (rfl : _ = nI 0) (by decide) (by decide) (hB0.o a2) (fun j hj => by omega) (fun z2 σ2 b1 b2 => ?_)
  iterate 5 refine Wp.go rfl ?_
  have c1 : mo [181] [20] σ2 (mc_up σ2 167 20 0) := mo.f _ (by decide) _
  have c2 : mo [179, 180, 181] [20] σ0 (mc_up σ2 167 20 0) := ((a2.wi (by decide) (by decide)).tr (b2.wi (by decide) (by decide))).tr (c1.wi (by decide) (by decide))
  have c3 : mSt n0A (mc_up σ2 167 20 0) := (a1.o b2).o c1
  have c4 : mHd B (mc_up σ2 167 20 0) := ⟨up_20 (by rw [hB1]; rfl), by omega, by rw [hB1]; exact b1.o (cs := []) (fs := [20]) (mo.f _ (by decide) _) (by decide) (by decide)⟩
  refine Wp.call rfl cqX12_joins (sX12_joins hG.1 (n := pn P) c3 c4 (hT.o c2) (rfl : _ = nI 0) hn0 hn30 (fun q => by cases q) (fun q => by cases q) (fun p hp => vK_8 hG.1 (hBg.2.1 p hp))) (fun rv1 s1 hq1 => ?_)
  obtain ⟨rfl, hS1, ho1⟩ := hq1
  refine Wp.go rfl ?_
  refine Wp.lo (lo := [(0, .inr (some 167)), (1, .inl _)]) ⟨rfl, rfl, trivial⟩ ?_
  have e1 : jnG T n0A 0 B = true := rfl
  have e2 : (mtA T (pn P) n0A 0 B).2.2.2.1 = true := by rw [mtA_4 hn0, e1, Bool.or_true]
  exact lX12_stW hG hH hI1 hI2 hI3 hμ hP hT hh (μ (mtA T (pn P) n0A 0 B) + 1) _ _ _ (by omega) (by rw [e2, e1]) hS1 hI0 (fun q => by rw [e2] at q; cases q) (c2.tr (ho1.wi (by decide) (by decide)))

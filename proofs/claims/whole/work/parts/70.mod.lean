theorem mSt.sh {T : tT} {n m : Nat} {S : sS} {c e : cS} {σ : mc_G} (hm : m < n) (h : mSt (mtA T n S m e) σ) : mSt (mtA T n (sh S c) m e) σ := by
  unfold mSt at *
  rw [mtA_1 hm, mtA_2 hm] at *
  exact h
set_option maxRecDepth 100000 in
theorem lX12_brH {P : pT} {T : tT} {h : Nat → Nat} {rc : Nat → Bool} (hG : pG P T) (hH : pH P h rc) {i : Nat} {x v : Int32} (hx : x = nI i) {g : Bool} {σ0 : mc_G} (hP : cMP P σ0) (hT : cMT T σ0) {Φ : Option mc_V → mc_G → Prop} : ∀ (n j : Nat) (b : Bool) (y z : Int32) (S : sS) (σ : mc_G), z = nI j → j + n = qn P → y = bI b → mSt S σ → nOk P T h rc S → S.2.1 i = true → S.2.2.2.1 = (g || b) → mo [179, 180, 181] [20] σ0 σ → (∀ (b1 : Bool) (y1 z1 : Int32) (σ1 : mc_G), y1 = bI b1 → mSt (foR (sv4 P T i) n j S) σ1 → (foR (sv4 P T i) n j S).2.2.2.1 = (g || b1) → mo [179, 180, 181] [20] σ0 σ1 → Wp miX12_bring 87 [(0, .inr (some 167)), (1, .inl x), (2, .inl y1), (3, .inl v), (4, .inl z1)] [] σ1 Φ) → Wp miX12_bring 11 [(0, .inr (some 167)), (1, .inl x), (2, .inl y), (3, .inl (v)), (4, .inl z)] [] σ Φ := by
  intro n
  induction n with
  | zero => 
    intro j b y z S σ hz hj hy hS hk hki hb ho kk
    have hn4 := hG.2.1.2
    iterate 4 refine Wp.go rfl ?_
    refine Wp.geN (a := j) (b := qn P) hz (hP.o ho).2.1 (by omega) (by omega) (fun (h1 : ¬ j < qn P) => ?_) (fun (h1 : j < qn P) => by omega)
    exact kk b y z σ hy hS hb ho
  | succ n ih =>
    intro j b y z S σ hz hj hy hS hk hki hb ho kk
    have hn4 := hG.2.1.2
    have hn30 := hG.2.1.1
    have hqj := hG.2.2.2.1 j (by omega)
    have hkr := hk i hki
    have hi : i < pn P := (hH.2.2 i hkr.1).1
    have hr := (hS i (by omega)).2 hki
    iterate 4 refine Wp.go rfl ?_
    refine Wp.geN (a := j) (b := qn P) hz (hP.o (ho)).2.1 (by omega) (by omega) (fun (h1 : ¬ j < qn P) => ?_) (fun (h1 : j < qn P) => ?_)
    · exfalso; omega
    · iterate 4 refine Wp.go rfl ?_
      refine Wp.go (if_pos ⟨rfl, rfl, (inE (n := 4) hz (by omega))⟩) ?_
      iterate 3 refine Wp.go rfl ?_
      refine Wp.go (if_pos ⟨rfl, rfl, (inE (n := 4) hz (by omega))⟩) ?_
      iterate 2 refine Wp.go rfl ?_
      refine Wp.call rfl cqX12_isIn (sX12_isIn_n hx (by omega) (rdE hz (by omega) ((hP.o (ho)).2.2.2 j (by omega)).1) (by omega) (nE_sub (rdE hz (by omega) ((hP.o (ho)).2.2.2 j (by omega)).2.1) (rfl : _ = nI 1) (by omega)) (by omega)) (fun rv1 s1 hq1 => ?_)
      obtain ⟨rfl, hq1⟩ := hq1
      replace hq1 := hq1.symm
      subst hq1
      refine Wp.go rfl ?_
      refine Wp.beqD (p := qf P j ≤ i ∧ i ≤ (qt P j) - 1) rfl (fun (h2 : ¬ (qf P j ≤ i ∧ i ≤ (qt P j) - 1)) => ?_) (fun (h2 : qf P j ≤ i ∧ i ≤ (qt P j) - 1) => ?_)
      · iterate 2 refine Wp.go rfl ?_
        have hcv : ¬ cvA P j i = true := by unfold cvA; simp; omega
        refine Wp.lo (lo := [(0, .inr (some 167)), (1, .inl _), (2, .inl _), (3, .inl _), (4, .inl _)]) ⟨rfl, rfl, rfl, rfl, rfl, trivial⟩ ?_
        refine ih (j + 1) b _ _ S σ (nE_add hz (rfl : _ = nI 1)) (by omega) hy hS hk hki hb ho (fun b1 y1 z1 σ1 a1 a2 a3 a4 => ?_)
        have e1 : foR (sv4 P T i) (n + 1) j S = foR (sv4 P T i) n (j + 1) S := by show foR _ n (j + 1) (sv4 P T i S j) = _; unfold sv4; rw [if_neg hcv]
        rw [e1] at kk
        exact kk b1 y1 z1 σ1 a1 a2 a3 a4
      · have hct : cvA P j i = true := by unfold cvA; simp; omega
        have hm0 := hH.2.2 i hkr.1
        have hcv := hm0.2.2.2.2.2 j hct
        have hm := hH.2.2 _ hcv.1
        have hqj := hG.2.2.2.1 j (by omega)
        have hge := gC_hd hkr.2.2 (hG.2.2.2.2.2.2 j (by omega))
        iterate 5 refine Wp.go rfl ?_
        refine Wp.call rfl cqX12_takeUp (sX12_takeUp179 (f := (S.1 i).2) hx (by omega) (rfl : _ = nI 0) (by decide) (fun q hq => (hr.2 q (by omega)))) (fun rv2 s2 hq2 => ?_)
        obtain ⟨rfl, hE2, ho2⟩ := hq2
        have hS2 := hS.o ho2
        iterate 5 refine Wp.go rfl ?_
        refine Wp.go (if_pos ⟨rfl, rfl, (inE (n := 4) hz (by omega))⟩) ?_
        refine Wp.go rfl ?_
        refine Wp.call rfl cqX12_push (sX12_push hE2 (q := 100 + (qk P j)) (show (0 : Nat) < 6 by decide) (nE_add (rfl : _ = nI 100) (rdE hz (by omega) ((hP.o ((ho).tr (ho2.wi (by decide) (by decide)))).2.2.2 j (by omega)).2.2.2)) (by omega)) (fun rv3 s3 hq3 => ?_)
        obtain ⟨rfl, hE3, ho3⟩ := hq3
        have hS3 := (hS2).o ho3
        iterate 5 refine Wp.go rfl ?_
        refine Wp.go (if_pos ⟨rfl, rfl, (inE (n := 4) hz (by omega))⟩) ?_
        refine Wp.call rfl cqX12_joins (sX12_joins hG.1 (n := pn P) (S := S) (e := (1, va_up (S.1 i).2 8 (100 + qk P j))) hS3 hE3 (hT.o (((ho).tr (ho2.wi (by decide) (by decide))).tr (ho3.wi (by decide) (by decide)))) (rdE hz (by omega) ((hP.o (((ho).tr (ho2.wi (by decide) (by decide))).tr (ho3.wi (by decide) (by decide)))).2.2.2 j (by omega)).2.2.1) hm.1 hG.2.1.1 (fun q => by rw [(hk _ q).2.1]; exact hcv.2) (fun q p hp => vK_8 hG.1 ((hk _ q).2.2.2.1 p hp)) (fun p hp => vK_8 hG.1 (hge.2.1 p hp))) (fun rv4 s4 hq4 => ?_)
        obtain ⟨rfl, hS4, ho4⟩ := hq4
        iterate 4 refine Wp.go rfl ?_
        refine Wp.lo (lo := [(0, .inr (some 167)), (1, .inl _), (2, .inl _), (3, .inl _), (4, .inl _)]) ⟨rfl, rfl, rfl, rfl, rfl, trivial⟩ ?_
        have hnx := hk.s4 hG hH hki (j := j)
        have e2 : sv4 P T i S j = mtA T (pn P) (sh S (1, va_up (S.1 i).2 8 (100 + qk P j))) (qa P j) (1, va_up (S.1 i).2 8 (100 + qk P j)) := by unfold sv4; rw [if_pos hct]
        have e3 := mSt.sh (c := (1, va_up (S.1 i).2 8 (100 + qk P j))) hm.1 hS4
        rw [← e2] at e3
        refine ih (j + 1) (b || (jnG T S (qa P j) (1, va_up (S.1 i).2 8 (100 + qk P j)))) _ _ (sv4 P T i S j) _ (nE_add hz (rfl : _ = nI 1)) (by omega) (bE_or hy rfl) e3 hnx.1 hnx.2 (by rw [e2, mtA_4 hm.1]; show (S.2.2.2.1 || jnG T S _ _) = _; rw [hb, Bool.or_assoc]) ((((ho).tr (ho2.wi (by decide) (by decide))).tr (ho3.wi (by decide) (by decide))).tr (ho4.wi (by decide) (by decide))) (fun b1 y1 z1 σ1 a1 a2 a3 a4 => ?_)
        exact kk b1 y1 z1 σ1 a1 a2 a3 a4
theorem mtA_5 {T : tT} {n : Nat} {S : sS} {i : Nat} {e : cS} : (mtA T n S i e).2.2.2.2 = S.2.2.2.2 := by
  unfold mtA
  split
  · split
    · rfl
    · split <;> rfl
  · rfl
set_option maxRecDepth 100000 in
theorem lX12_brJ {P : pT} {T : tT} {h : Nat → Nat} {rc : Nat → Bool} (hG : pG P T) (hH : pH P h rc) {i : Nat} {x y v z : Int32} (hx : x = nI i) {g b : Bool} (hy : y = bI b) {σ0 σ : mc_G} (hP : cMP P σ0) (hT : cMT T σ0) (ho : mo [179, 180, 181] [20] σ0 σ) {S : sS} {e : cS} (hS : mSt S σ) (hE : mHd e σ) (hk : nOk P T h rc S) (hi : rc i = true) (hc : S.2.2.2.2 = e) (hge : gC P T e) (he : e.1 = h i - tkA (opA P i) + gvA (opA P i)) (hb : S.2.2.2.1 = (g || b)) : Wp miX12_bring 184 [(0, .inr (some 167)), (1, .inl x), (2, .inl y), (3, .inl (v)), (4, .inl (z))] [] σ (fun rv σ' => ∃ b1, rv = some (.inl (bI b1)) ∧ mSt (sv3 P T S i) σ' ∧ (sv3 P T S i).2.2.2.1 = (g || b1) ∧ mo [179, 180, 181] [20] σ0 σ') := by
  have hm0 := hH.2.2 i hi
  have hn30 := hG.2.1.1
  have h20 := op_20 hG i
  iterate 3 refine Wp.go rfl ?_
  refine Wp.go (if_pos ⟨rfl, rfl, (inE (n := 30) hx (by omega))⟩) ?_
  refine Wp.call rfl cqX12_leads (sX12_leads (rdE hx (by omega) ((hP.o (ho)).op (by omega))) (op_20 hG i)) (fun rv1 s1 hq1 => ?_)
  obtain ⟨rfl, hq1⟩ := hq1
  replace hq1 := hq1.symm
  subst hq1
  refine Wp.go rfl ?_
  refine Wp.beqE rfl (fun (h1 : (decide (16 ≤ opA P i) && decide (opA P i ≤ 18)) = false) => ?_) (fun (h1 : (decide (16 ≤ opA P i) && decide (opA P i ≤ 18)) = true) => ?_)
  · refine Wp.go rfl ?_
    refine Wp.retB (b := b) rfl rfl hy ?_
    have e2 : sv3 P T S i = S := by unfold sv3; rw [if_neg (by intro q; unfold juA at q; rw [q] at h1; cases h1)]
    rw [e2]
    exact ⟨b, rvB hy rfl, hS, hb, ho⟩
  · have hju : juA P i = true := h1
    have hcv := hm0.2.2.2.2.1 hju
    have hm := hH.2.2 _ hcv.1
    have hN3 := fun q => hG.2.2.2.2.1.2.2 i q
    iterate 5 refine Wp.go rfl ?_
    refine Wp.go (if_pos ⟨rfl, rfl, (inE (n := 30) hx (by omega))⟩) ?_
    refine Wp.call rfl cqX12_joins (sX12_joins hG.1 (n := pn P) (S := S) (e := e) hS hE (hT.o (ho)) (rdE hx (by omega) (((hP.o (ho)).nu (by omega)).trans (hN3 (by assumption)).1)) hm.1 hG.2.1.1 (fun q => by rw [(hk _ q).2.1, he]; exact hcv.2) (fun q p hp => vK_8 hG.1 ((hk _ q).2.2.2.1 p hp)) (fun p hp => vK_8 hG.1 (hge.2.1 p hp))) (fun rv2 s2 hq2 => ?_)
    obtain ⟨rfl, hS2, ho2⟩ := hq2
    iterate 3 refine Wp.go rfl ?_
    refine Wp.retB (b := b || (jnG T S (nuN P i) e)) rfl rfl (bE_or hy rfl) ?_
    have e2 : sv3 P T S i = mtA T (pn P) S (nuN P i) e := by unfold sv3; rw [if_pos hju, hc]
    rw [e2]
    exact ⟨_, rvB (bE_or hy rfl) rfl, hS2, by rw [mtA_4 hm.1, hb, Bool.or_assoc], (ho).tr (ho2.wi (by decide) (by decide))⟩
set_option maxRecDepth 100000 in
theorem lX12_brG {P : pT} {T : tT} {h : Nat → Nat} {rc : Nat → Bool} (hG : pG P T) (hH : pH P h rc) {i : Nat} {x y v z : Int32} (hx : x = nI i) {g b : Bool} (hy : y = bI b) {σ0 σ : mc_G} (hP : cMP P σ0) (hT : cMT T σ0) (ho : mo [179, 180, 181] [20] σ0 σ) {S : sS} {e : cS} (hS : mSt S σ) (hE : mHd e σ) (hk : nOk P T h rc S) (hi : rc i = true) (hc : S.2.2.2.2 = e) (hge : gC P T e) (he : e.1 = h i - tkA (opA P i) + gvA (opA P i)) (hb : S.2.2.2.1 = (g || b)) : Wp miX12_bring 162 [(0, .inr (some 167)), (1, .inl x), (2, .inl y), (3, .inl (v)), (4, .inl (z))] [] σ (fun rv σ' => ∃ b1, rv = some (.inl (bI b1)) ∧ mSt (sv3 P T (sv2 P T S i) i) σ' ∧ (sv3 P T (sv2 P T S i) i).2.2.2.1 = (g || b1) ∧ mo [179, 180, 181] [20] σ0 σ') := by
  have hm0 := hH.2.2 i hi
  have hn30 := hG.2.1.1
  have h20 := op_20 hG i
  iterate 3 refine Wp.go rfl ?_
  refine Wp.go (if_pos ⟨rfl, rfl, (inE (n := 30) hx (by omega))⟩) ?_
  refine Wp.call rfl cqX12_goesOn (sX12_goesOn (rdE hx (by omega) ((hP.o (ho)).op (by omega))) (op_20 hG i)) (fun rv1 s1 hq1 => ?_)
  obtain ⟨rfl, hq1⟩ := hq1
  replace hq1 := hq1.symm
  subst hq1
  refine Wp.go rfl ?_
  refine Wp.beqD (p := opA P i < 18) rfl (fun (h1 : ¬ (opA P i < 18)) => ?_) (fun (h1 : opA P i < 18) => ?_)
  · have e2 : sv2 P T S i = S := by unfold sv2; rw [if_neg (by unfold goA; simp; omega)]
    rw [e2]
    refine Wp.lo (lo := [(0, .inr (some 167)), (1, .inl _), (2, .inl _), (3, .inl _), (4, .inl _)]) ⟨rfl, rfl, rfl, rfl, rfl, trivial⟩ ?_
    exact lX12_brJ hG hH hx hy hP hT ho hS hE hk hi hc hge he hb
  · have hgo : goA P i = true := decide_eq_true h1
    have hcv := hm0.2.2.2.1 hgo
    have hm := hH.2.2 _ hcv.1
    iterate 5 refine Wp.go rfl ?_
    refine Wp.call rfl cqX12_joins (sX12_joins hG.1 (n := pn P) (S := S) (e := e) hS hE (hT.o (ho)) (nE_add hx (rfl : _ = nI 1)) hm.1 hG.2.1.1 (fun q => by rw [(hk _ q).2.1, he]; exact hcv.2) (fun q p hp => vK_8 hG.1 ((hk _ q).2.2.2.1 p hp)) (fun p hp => vK_8 hG.1 (hge.2.1 p hp))) (fun rv2 s2 hq2 => ?_)
    obtain ⟨rfl, hS2, ho2⟩ := hq2
    iterate 2 refine Wp.go rfl ?_
    have e2 : sv2 P T S i = mtA T (pn P) S (i + 1) e := by unfold sv2; rw [if_pos hgo, hc]
    rw [e2]
    refine Wp.lo (lo := [(0, .inr (some 167)), (1, .inl _), (2, .inl _), (3, .inl _), (4, .inl _)]) ⟨rfl, rfl, rfl, rfl, rfl, trivial⟩ ?_
    exact lX12_brJ hG hH hx (bE_or hy rfl) hP hT ((ho).tr (ho2.wi (by decide) (by decide))) hS2 (hE.o ho2) (hk.mt hG.1 hcv.1 (he.trans hcv.2.symm) hge) hi (mtA_5.trans hc) hge he (by rw [mtA_4 hm.1, hb, Bool.or_assoc])
set_option maxRecDepth 100000 in
theorem lX12_brZ {q : Nat} (h6 : q ≤ 6) {x y v : Int32} {Φ : Option mc_V → mc_G → Prop} : ∀ (n k : Nat) (z : Int32) (σ : mc_G), z = nI k → k ≤ 14 → 14 - k < n → σ 167 20 = nI q → (∀ j, j < k → σ 181 j = nI 0) → (∀ (z1 : Int32) (σ1 : mc_G), mHd (q, fun _ => 0) σ1 → mo [181] [] σ σ1 → Wp miX12_bring 162 [(0, .inr (some 167)), (1, .inl x), (2, .inl y), (3, .inl v), (4, .inl z1)] [] σ1 Φ) → Wp miX12_bring 141 [(0, .inr (some 167)), (1, .inl (x)), (2, .inl (y)), (3, .inl (v)), (4, .inl z)] [] σ Φ := by
  intro n
  induction n with
  | zero => intro k z σ hz hk h; omega
  | succ n ih =>
    intro k z σ hz hk hn hh hA kk
    iterate 3 refine Wp.go rfl ?_
    refine Wp.geN (a := k) (b := 14) hz (rfl : _ = nI 14) (by omega) (by omega) (fun (h1 : ¬ k < 14) => ?_) (fun (h1 : k < 14) => ?_)
    · refine Wp.lo (lo := [(0, .inr (some 167)), (1, .inl _), (2, .inl _), (3, .inl _), (4, .inl _)]) ⟨rfl, rfl, rfl, rfl, rfl, trivial⟩ ?_
      exact kk z σ ⟨hh, h6, fun j hj => ⟨hA j (by have : j < 8 + q := hj; omega), by show 0 < 300; decide⟩⟩ mo.rf
    · iterate 4 refine Wp.go rfl ?_
      refine Wp.go (if_pos ⟨(show 181 < 187 by decide), rfl, (inE (n := 14) hz (by omega))⟩) ?_
      iterate 2 refine Wp.go rfl ?_
      refine Wp.lo (lo := [(0, .inr (some 167)), (1, .inl _), (2, .inl _), (3, .inl _), (4, .inl _)]) ⟨rfl, rfl, rfl, rfl, rfl, trivial⟩ ?_
      refine ih (k + 1) _ _ (nE_add hz (rfl : _ = nI 1)) (by omega) (by omega) (by rw [mc_upn _ _ _ (by decide)]; exact hh) (fun j hj => ?_) (fun z1 σ1 a1 a2 => kk z1 σ1 a1 ((mo.a _ (by decide) (by decide) _ _).tr a2))
      rw [clE hz (by omega), upj]
      by_cases q : j = k
      · rw [if_pos q]; rfl
      · rw [if_neg q]; exact hA j (by omega)
set_option maxRecDepth 100000 in
theorem lX12_brP {P : pT} {T : tT} {h : Nat → Nat} {rc : Nat → Bool} (hG : pG P T) (hH : pH P h rc) {i : Nat} {x y v z : Int32} (hx : x = nI i) {g b : Bool} (hy : y = bI b) {σ0 σ : mc_G} (hP : cMP P σ0) (hT : cMT T σ0) (ho : mo [179, 180, 181] [20] σ0 σ) {S : sS} (hS : mSt S σ) (hk : nOk P T h rc S) (hki : S.2.1 i = true) (hv : v = nI (S.1 i).1) (hb : S.2.2.2.1 = (g || b)) : Wp miX12_bring 87 [(0, .inr (some 167)), (1, .inl x), (2, .inl y), (3, .inl v), (4, .inl (z))] [] σ (fun rv σ' => ∃ b1, rv = some (.inl (bI b1)) ∧ mSt (sv3 P T (sv2 P T (sv1 P T S i) i) i) σ' ∧ (sv3 P T (sv2 P T (sv1 P T S i) i) i).2.2.2.1 = (g || b1) ∧ mo [179, 180, 181] [20] σ0 σ') := by
  have hkr := hk i hki
  have hm0 := hH.2.2 i hkr.1
  have hn30 := hG.2.1.1
  have h20 := op_20 hG i
  have hr := (hS i (by omega)).2 hki
  have hps := psC_ok hG hkr.2.2 (k := i) (by rw [hkr.2.1]; exact hm0.2.1) (by rw [hkr.2.1]; exact hm0.2.2.1)
  iterate 5 refine Wp.go rfl ?_
  refine Wp.call rfl cqX12_takeUp (sX12_takeUp179 (f := (S.1 i).2) (h := (S.1 i).1) hx (by omega) hv hr.1 hr.2) (fun rv1 s1 hq1 => ?_)
  obtain ⟨rfl, hE1, ho1⟩ := hq1
  have hS1 := hS.o ho1
  iterate 2 refine Wp.go rfl ?_
  refine Wp.call rfl cqX12_isWanted (sX12_isWanted hE1 (hP.o ((ho).tr (ho1.wi (by decide) (by decide)))) hG.2.2.2.2.1 hG.2.2.2.2.2 hG.1 hx hm0.1 hn30 hkr.2.2 (hT.o ((ho).tr (ho1.wi (by decide) (by decide)))) h20 (by rw [hkr.2.1]; exact hm0.2.1)) (fun rv2 s2 hq2 => ?_)
  obtain ⟨rfl, hq2⟩ := hq2
  replace hq2 := hq2.symm
  subst hq2
  refine Wp.go rfl ?_
  refine Wp.beqE rfl (fun (h1 : (suA T (opA P i) (nuN P i) (S.1 i)) = false) => ?_) (fun (h1 : (suA T (opA P i) (nuN P i) (S.1 i)) = true) => ?_)
  · iterate 5 refine Wp.go rfl ?_
    refine Wp.go (if_pos ⟨rfl, rfl, (inE (n := 30) hx (by first | omega | (rw [hkr.2.1]; exact hm0.2.1)))⟩) ?_
    refine Wp.call rfl cqX12_takes (sX12_takes (rdE hx (by first | omega | (rw [hkr.2.1]; exact hm0.2.1)) ((hP.o ((ho).tr (ho1.wi (by decide) (by decide)))).op (by omega))) h20) (fun rv3 s3 hq3 => ?_)
    obtain ⟨rfl, hq3⟩ := hq3
    replace hq3 := hq3.symm
    subst hq3
    iterate 4 refine Wp.go rfl ?_
    refine Wp.go (if_pos ⟨rfl, rfl, (inE (n := 30) hx (by first | omega | (rw [hkr.2.1]; exact hm0.2.1)))⟩) ?_
    refine Wp.call rfl cqX12_gives (sX12_gives (rdE hx (by first | omega | (rw [hkr.2.1]; exact hm0.2.1)) ((hP.o ((ho).tr (ho1.wi (by decide) (by decide)))).op (by omega))) h20) (fun rv4 s4 hq4 => ?_)
    obtain ⟨rfl, hq4⟩ := hq4
    replace hq4 := hq4.symm
    subst hq4
    refine Wp.go rfl ?_
    refine Wp.go rfl ?_
    iterate 2 refine Wp.go rfl ?_
    have e1 : psC P T i (S.1 i) = ((S.1 i).1 - tkA (opA P i) + gvA (opA P i), fun _ => 0) := by unfold psC paA; rw [if_neg (by rw [h1]; decide)]
    refine Wp.lo (lo := [(0, .inr (some 167)), (1, .inl _), (2, .inl _), (3, .inl _), (4, .inl _)]) ⟨rfl, rfl, rfl, rfl, rfl, trivial⟩ ?_
    refine lX12_brZ (q := (S.1 i).1 - tkA (opA P i) + gvA (opA P i)) (by rw [hkr.2.1]; exact hm0.2.2.1) 15 0 _ _ (rfl : _ = nI 0) (by decide) (by decide) (up_20 (nE_add (nE_sub hv rfl (by first | omega | (rw [hkr.2.1]; exact hm0.2.1))) rfl)) (fun j hj => by omega) (fun z1 σ1 a1 a2 => ?_)
    have ho9 : mo [179, 180, 181] [20] _ σ1 := (mo.f (cs := [179, 180, 181]) (fs := [20]) _ (by decide) _).tr (a2.wi (by decide) (by decide))
    exact lX12_brG hG hH hx hy hP hT (((ho).tr (ho1.wi (by decide) (by decide))).tr ho9) (S := sv1 P T S i) ((hS1).o ((mo.f (cs := [181]) (fs := [20]) _ (by decide) _).tr (a2.wi (by decide) (by decide)))) (e := psC P T i (S.1 i)) (by rw [e1]; exact a1) hk hkr.1 rfl hps.1 (by rw [hps.2, hkr.2.1]) hb
  · iterate 2 refine Wp.go rfl ?_
    refine Wp.call rfl cqX12_work (sX12_work hE1 (hP.o ((ho).tr (ho1.wi (by decide) (by decide)))) hG.2.2.2.2.1 hG.2.2.2.2.2 hG.1 hx hm0.1 hn30 hkr.2.2 h20 h1 (by rw [hkr.2.1]; exact hm0.2.1) (by rw [hkr.2.1]; exact hm0.2.2.1)) (fun rv5 s5 hq5 => ?_)
    obtain ⟨rfl, hE5, ho5⟩ := hq5
    have hS5 := (hS1).o ho5
    refine Wp.go rfl ?_
    have e1 : psC P T i (S.1 i) = wkA (opA P i) (nuN P i) i (tyA P (S.1 i)) (S.1 i) := by unfold psC paA; rw [if_pos h1]
    exact lX12_brG hG hH hx hy hP hT (((ho).tr (ho1.wi (by decide) (by decide))).tr (ho5.wi (by decide) (by decide))) (S := sv1 P T S i) hS5 (e := psC P T i (S.1 i)) (by rw [e1]; exact hE5) hk hkr.1 rfl hps.1 (by rw [hps.2, hkr.2.1]) hb
set_option maxRecDepth 100000 in
theorem sX12_bring {P : pT} {T : tT} {h : Nat → Nat} {rc : Nat → Bool} (hG : pG P T) (hH : pH P h rc) {i m : Nat} {x : Int32} (hx : x = nI i) {S : sS} {σ : mc_G} (hP : cMP P σ) (hT : cMT T σ) (hS : mSt S σ) (hk : nOk P T h rc S) (hki : S.2.1 i = true) (hm : σ 177 i = nI m) (hm7 : m < 128) (hmh : hiO m = h i) : Wp miX12_bring 0 [(0, .inr (some 167)), (1, .inl x)] [] σ (fun rv σ' => ∃ b1, rv = some (.inl (bI b1)) ∧ mSt (brA P T S i) σ' ∧ (brA P T S i).2.2.2.1 = (S.2.2.2.1 || b1) ∧ mo [179, 180, 181] [20] σ σ') := by
  have hkr := hk i hki
  have hi := (hH.2.2 i hkr.1).1
  have hn30 := hG.2.1.1
  iterate 4 refine Wp.go rfl ?_
  refine Wp.call rfl cqX12_highOf (sX12_highOf hx (by omega) hm hm7) (fun rv1 s1 hq1 => ?_)
  obtain ⟨rfl, hq1⟩ := hq1
  replace hq1 := hq1.symm
  subst hq1
  iterate 3 refine Wp.go rfl ?_
  refine Wp.lo (lo := [(0, .inr (some 167)), (1, .inl _), (2, .inl _), (3, .inl _), (4, .inl _)]) ⟨rfl, rfl, rfl, rfl, rfl, trivial⟩ ?_
  refine lX12_brH hG hH hx (g := S.2.2.2.1) hP hT (qn P) 0 false _ _ S σ (rfl : _ = nI 0) (by omega) rfl hS hk hki (by rw [Bool.or_false]) mo.rf (fun b1 y1 z1 σ1 a1 a2 a3 a4 => ?_)
  have h4 := hk.s4s (n := qn P) (i := 0) hG hH hki
  exact lX12_brP hG hH hx a1 hP hT a4 a2 h4.1 h4.2 (by rw [(h4.1 i h4.2).2.1, hmh]) a3

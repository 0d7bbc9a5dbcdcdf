theorem cCode.oT {P : pT} {σ σ' : mc_G} (h : cCode P σ) (o : offT σ σ') : cCode P σ' := h.to (fun b h1 h2 => o b (by omega) (by omega))
theorem cTyp.oT {T : tT} {σ σ' : mc_G} (h : cTyp T σ) (o : offT σ σ') : cTyp T σ' := h.to (fun b h1 h2 => o b (by omega) (by omega))
theorem cSta.oT {σ σ' : mc_G} (h : cSta σ) (o : offT σ σ') : cSta σ' := fun k hk => by rw [o 1000 (by decide) (by decide), o 1001 (by decide) (by decide)]; exact h k hk
theorem mtA_h {T : tT} {n : Nat} {S : sS} {k : Nat} {e : cS} : (mtA T n S k e).2.2.2.2 = S.2.2.2.2 := by
  unfold mtA
  split
  · split
    · rfl
    · split <;> rfl
  · rfl
set_option maxRecDepth 100000 in
theorem lX7_hand {P : pT} {T : tT} (hO1 : pn P ≤ 30 ∧ qn P ≤ 4) (hp20 : ∀ k, k < pn P → po P k ≤ 20) (hB : ∀ j, j < qn P → qf P j < qt P j ∧ qt P j ≤ 30 ∧ qa P j < 30 ∧ qk P j < 8) (hN : pNum P) (hO : tOk T) {x : Int32} {k : Nat} (hx : x = nI k) (hk : k < 30) {σ0 : mc_G} : ∀ (n i : Nat) (x2 : Int32), x2 = nI i → i + n = qn P → ∀ (S : sS) (σ : mc_G), cSts S σ → cCode P σ → cTyp T σ → offT σ0 σ → Wp miX7_leave 75 [(0, .inr (some 17)), (1, .inl x), (2, .inl x2)] [] σ (fun rv σ' => rv = none ∧ cSts (foR (sv4 P T k) n i S) σ' ∧ offT σ0 σ') := by
  intro n
  induction n with
  | zero =>
    intro i x2 hz2 hin S σ hS hP hT ho
    iterate 3 refine Wp.go rfl ?_
    refine Wp.call rfl cqX1_handlers (sX1_handlers hP hO1) (fun rv1 s1 hq1 => ?_)
    obtain ⟨rfl, hq1⟩ := hq1
    replace hq1 := hq1.symm
    subst hq1
    refine Wp.go rfl ?_
    refine Wp.geN (a := i) (b := qn P) hz2 rfl (by omega) (by omega) (fun h1 => ?_) (fun h1 => ?_)
    · refine Wp.ret rfl ?_
      exact ⟨rfl, hS, ho⟩
    · exfalso; omega
  | succ n ih =>
    intro i x2 hz2 hin S σ hS hP hT ho
    have hi : i < qn P := by omega
    have hBi := hB i hi
    iterate 3 refine Wp.go rfl ?_
    refine Wp.call rfl cqX1_handlers (sX1_handlers hP hO1) (fun rv1 s1 hq1 => ?_)
    obtain ⟨rfl, hq1⟩ := hq1
    replace hq1 := hq1.symm
    subst hq1
    refine Wp.go rfl ?_
    refine Wp.geN (a := i) (b := qn P) hz2 rfl (by omega) (by omega) (fun h1 => absurd hi h1) (fun h1 => ?_)
    iterate 4 refine Wp.go rfl ?_
    refine Wp.call rfl cqX1_covers (sX1_covers hP hO1 hz2 (by omega) hx (by omega) hB) (fun rv2 s2 hq2 => ?_)
    obtain ⟨rfl, hq2⟩ := hq2
    replace hq2 := hq2.symm
    subst hq2
    refine Wp.go rfl ?_
    refine Wp.beqE (b := cvA P i k) rfl (fun h2 => ?_) (fun h2 => ?_)
    · iterate 2 refine Wp.go rfl ?_
      have e1 : foR (sv4 P T k) (n + 1) i S = foR (sv4 P T k) n (i + 1) S := by
        show foR (sv4 P T k) n (i + 1) (sv4 P T k S i) = _
        unfold sv4; rw [if_neg (by rw [h2]; decide)]
      rw [e1]
      refine Wp.lo (lo := [(0, .inr (some 17)), (1, .inl _), (2, .inl _)]) ⟨rfl, rfl, rfl, trivial⟩ ?_
      exact ih (i + 1) _ (nE_add hz2 (rfl : _ = nI 1)) (by omega) S σ hS hP hT ho
    · iterate 4 refine Wp.go rfl ?_
      refine Wp.call rfl cqX7_row (sX7_row hx hk) (fun rv3 s3 hq3 => ?_)
      obtain ⟨rfl, hq3⟩ := hq3
      replace hq3 := hq3.symm
      subst hq3
      iterate 3 refine Wp.go rfl ?_
      refine Wp.call rfl cqX1_thingOf (sX1_thingOf hP hO1 hz2 (by omega) hB) (fun rv4 s4 hq4 => ?_)
      obtain ⟨rfl, hq4⟩ := hq4
      replace hq4 := hq4.symm
      subst hq4
      have eth : thA P i = 100 + qk P i := by unfold thA; rw [if_pos hi]
      refine Wp.call rfl cqX0_becomeCaught (sX0_becomeCaught (q := 100 + qk P i) isC_84 (isC_row hk) hS.2.2 (hS.1 k hk).1 ⟨by omega, by omega, by omega⟩ (congrArg nI eth) (by omega)) (fun rv5 s5 hq5 => ?_)
      obtain ⟨rfl, hc5, ho5⟩ := hq5
      obtain ⟨hS5, hf5⟩ := hS.hnd ho5 hc5
      have hP5 := hP.oT hf5
      have hT5 := hT.oT hf5
      iterate 4 refine Wp.go rfl ?_
      refine Wp.call rfl cqX1_startOf (sX1_startOf hP5 hO1 hz2 (by omega) hB) (fun rv6 s6 hq6 => ?_)
      obtain ⟨rfl, hq6⟩ := hq6
      replace hq6 := hq6.symm
      subst hq6
      iterate 2 refine Wp.go rfl ?_
      refine Wp.call rfl cqX7_meet (sX7_meet hP5 hO1 hT5 hO hS5 (k := qa P i) (stE hi) (by omega) (Or.inl rfl) isC_84 hc5) (fun rv7 s7 hq7 => ?_)
      obtain ⟨rfl, hS7, hf7⟩ := hq7
      iterate 2 refine Wp.go rfl ?_
      have e1 : foR (sv4 P T k) (n + 1) i S = foR (sv4 P T k) n (i + 1) (mtA T (pn P) (sh S (1, va_up (S.1 k).2 8 (100 + qk P i))) (qa P i) (1, va_up (S.1 k).2 8 (100 + qk P i))) := by
        show foR (sv4 P T k) n (i + 1) (sv4 P T k S i) = _
        unfold sv4; rw [if_pos h2]
      rw [e1]
      refine Wp.lo (lo := [(0, .inr (some 17)), (1, .inl _), (2, .inl _)]) ⟨rfl, rfl, rfl, trivial⟩ ?_
      exact ih (i + 1) _ (nE_add hz2 (rfl : _ = nI 1)) (by omega) _ s7 hS7 (hP5.oT hf7) (hT5.oT hf7) ((ho.tr hf5).tr hf7)
set_option maxRecDepth 100000 in
theorem lX7_jump {P : pT} {T : tT} (hO1 : pn P ≤ 30 ∧ qn P ≤ 4) (hp20 : ∀ k, k < pn P → po P k ≤ 20) (hB : ∀ j, j < qn P → qf P j < qt P j ∧ qt P j ≤ 30 ∧ qa P j < 30 ∧ qk P j < 8) (hN : pNum P) (hO : tOk T) {x : Int32} {k : Nat} (hx : x = nI k) (hk : k < 30) {S : sS} {σ0 σ : mc_G} (hS : cSts S σ) (hP : cCode P σ) (hT : cTyp T σ) (ho : offT σ0 σ) : Wp miX7_leave 46 [(0, .inr (some 17)), (1, .inl x)] [] σ (fun rv σ' => rv = none ∧ cSts (foR (sv4 P T k) (qn P) 0 (sv3 P T S k)) σ' ∧ offT σ0 σ') := by
  iterate 3 refine Wp.go rfl ?_
  refine Wp.call rfl cqX1_jumps (sX1_jumps hP hO1 hx (by omega) hp20) (fun rv1 s1 hq1 => ?_)
  obtain ⟨rfl, hq1⟩ := hq1
  replace hq1 := hq1.symm
  subst hq1
  refine Wp.go rfl ?_
  refine Wp.beqE (b := juA P k) rfl (fun h2 => ?_) (fun h2 => ?_)
  · have e1 : sv3 P T S k = S := by unfold sv3; rw [if_neg (by rw [h2]; decide)]
    rw [e1]
    iterate 2 refine Wp.go rfl ?_
    refine Wp.lo (lo := [(0, .inr (some 17)), (1, .inl _), (2, .inl _)]) ⟨rfl, rfl, rfl, trivial⟩ ?_
    exact lX7_hand hO1 hp20 hB hN hO hx hk (qn P) 0 _ (rfl : _ = nI 0) (by omega) S σ hS hP hT ho
  · have e1 : sv3 P T S k = mtA T (pn P) S (nuN P k) S.2.2.2.2 := by unfold sv3; rw [if_pos h2]
    rw [e1]
    have hj := hN.2.2 k h2
    iterate 4 refine Wp.go rfl ?_
    refine Wp.call rfl cqX1_numberAt (sX1_numberAt hP hO1 hx (by omega)) (fun rv3 s3 hq3 => ?_)
    obtain ⟨rfl, hq3⟩ := hq3
    replace hq3 := hq3.symm
    subst hq3
    iterate 2 refine Wp.go rfl ?_
    refine Wp.call rfl cqX7_meet (sX7_meet hP hO1 hT hO hS (k := nuN P k) hj.1 (by omega) (Or.inl rfl) isC_84 hS.2.2) (fun rv7 s7 hq7 => ?_)
    obtain ⟨rfl, hS7, hf7⟩ := hq7
    iterate 2 refine Wp.go rfl ?_
    refine Wp.lo (lo := [(0, .inr (some 17)), (1, .inl _), (2, .inl _)]) ⟨rfl, rfl, rfl, trivial⟩ ?_
    exact lX7_hand hO1 hp20 hB hN hO hx hk (qn P) 0 _ (rfl : _ = nI 0) (by omega) _ s7 hS7 (hP.oT hf7) (hT.oT hf7) (ho.tr hf7)
set_option maxRecDepth 100000 in
theorem sX7_leave {P : pT} {T : tT} (hO1 : pn P ≤ 30 ∧ qn P ≤ 4) (hp20 : ∀ k, k < pn P → po P k ≤ 20) (hB : ∀ j, j < qn P → qf P j < qt P j ∧ qt P j ≤ 30 ∧ qa P j < 30 ∧ qk P j < 8) (hN : pNum P) (hO : tOk T) {x : Int32} {k : Nat} (hx : x = nI k) (hk : k < 30) {S : sS} {σ : mc_G} (hS : cSts S σ) (hP : cCode P σ) (hT : cTyp T σ) (hA : cSta σ) (hpp : ppA P T k (S.1 k)) : Wp miX7_leave 0 [(0, .inr (some 17)), (1, .inl x)] [] σ (fun rv σ' => rv = none ∧ cSts (svA P T S k) σ' ∧ offT σ σ') := by
  obtain ⟨hp1, hp2, hp3⟩ := hpp
  iterate 4 refine Wp.go rfl ?_
  refine Wp.call rfl cqX7_row (sX7_row hx hk) (fun rv1 s1 hq1 => ?_)
  obtain ⟨rfl, hq1⟩ := hq1
  replace hq1 := hq1.symm
  subst hq1
  refine Wp.call rfl cqX0_becomeLike (sX0_becomeLike isC_84 (isC_row hk) hS.2.2 (hS.1 k hk).1 ⟨by omega, by omega, by omega⟩) (fun rv2 s2 hq2 => ?_)
  obtain ⟨rfl, hc2, ho2⟩ := hq2
  obtain ⟨hS2, hf2⟩ := hS.hnd ho2 hc2
  have hP2 := hP.oT hf2
  have hT2 := hT.oT hf2
  have hA2 := hA.oT hf2
  iterate 5 refine Wp.go rfl ?_
  refine Wp.call rfl cqX5_pass (sX5_pass (t := tyA P (S.1 k)) hP2 hO1 hp20 hT2 hO isC_84 hc2 hx hk (hN.1 k) hA2 (by decide) (hN.2.1 k) hp3 hp1 hp2) (fun rv3 s3 hq3 => ?_)
  obtain ⟨rfl, hc3, ho3⟩ := hq3
  obtain ⟨hS3, hf3⟩ := hS2.hnd ho3 hc3
  have hS3 : cSts (sv1 P T S k) s3 := hS3
  have hP3 := hP2.oT hf3
  have hT3 := hT2.oT hf3
  iterate 3 refine Wp.go rfl ?_
  refine Wp.call rfl cqX1_goesOn (sX1_goesOn hP3 hO1 hx (by omega) hp20) (fun rv4 s4 hq4 => ?_)
  obtain ⟨rfl, hq4⟩ := hq4
  replace hq4 := hq4.symm
  subst hq4
  refine Wp.go rfl ?_
  unfold svA
  refine Wp.beqE (b := goA P k) rfl (fun h2 => ?_) (fun h2 => ?_)
  · have e1 : sv2 P T (sv1 P T S k) k = sv1 P T S k := by unfold sv2; rw [if_neg (by rw [h2]; decide)]
    rw [e1]
    exact lX7_jump hO1 hp20 hB hN hO hx hk hS3 hP3 hT3 (hf2.tr hf3)
  · have e1 : sv2 P T (sv1 P T S k) k = mtA T (pn P) (sv1 P T S k) (k + 1) (sv1 P T S k).2.2.2.2 := by unfold sv2; rw [if_pos h2]
    rw [e1]
    iterate 6 refine Wp.go rfl ?_
    refine Wp.call rfl cqX7_meet (sX7_meet hP3 hO1 hT3 hO hS3 (k := k + 1) (nE_add hx (rfl : _ = nI 1)) (by omega) (Or.inl rfl) isC_84 hS3.2.2) (fun rv7 s7 hq7 => ?_)
    obtain ⟨rfl, hS7, hf7⟩ := hq7
    exact lX7_jump hO1 hp20 hB hN hO hx hk hS7 (hP3.oT hf7) (hT3.oT hf7) ((hf2.tr hf3).tr hf7)

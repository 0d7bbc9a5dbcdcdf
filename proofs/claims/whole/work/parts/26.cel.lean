theorem orE {x y : Int32} {g h : Bool} (hx : x = bI g) (hy : y = bI h) : x ||| y = bI (g || h) := by
  rw [hx, hy]; cases g <;> cases h <;> rfl
theorem andE {x y : Int32} {g h : Bool} (hx : x = bI g) (hy : y = bI h) : x &&& y = bI (g && h) := by
  rw [hx, hy]; cases g <;> cases h <;> rfl
theorem jnA_lt {T : tT} (hO : tOk T) {p q : Nat} (hp : p < 300) (hq : q < 300) : jnA T p q < 300 := by
  have h8 := hO.2.1
  unfold jnA
  split
  · exact hp
  · split
    · rename_i h
      split
      · exact hq
      · split
        · exact hp
        · have : neA T (p - 100) (q - 100) < tc T := by
            refine neA_lt hO ?_ ?_ <;> (simp only [rfK, thK, Bool.and_eq_true, Bool.or_eq_true, decide_eq_true_eq] at h; omega)
          omega
    · decide
def jwA (T : tT) (c e : cS) : cS := (c.1, fun j => if j < 8 + c.1 then jnA T (c.2 j) (kA e j) else c.2 j)
def jcA (T : tT) (c e : cS) (i : Nat) : Bool := (List.range i).any (fun j => decide (¬ (jwA T c e).2 j = c.2 j))
theorem jcA_s {T : tT} {c e : cS} {i : Nat} : jcA T c e (i + 1) = (jcA T c e i || decide (¬ (jwA T c e).2 i = c.2 i)) := by
  unfold jcA
  rw [List.range_succ, List.any_append]
  simp
theorem jwA_at {T : tT} {c e : cS} {i : Nat} (h : i < 8 + c.1) : (jwA T c e).2 i = jnA T (c.2 i) (kA e i) := by unfold jwA; simp [h]
set_option maxRecDepth 100000 in
theorem lX0_joinWith {T : tT} {a d : Nat} {c e : cS} (hO : tOk T) (hC : isC a) (hD : isC d) (hn : apC a d) (h4a : 4 ≤ a) {σ0 : mc_G} : ∀ (n i : Nat) (x3 : Int32), x3 = nI i → ∀ (g : Bool) (x5 : Int32), x5 = bI g → i ≤ 8 + c.1 → g = jcA T c e i → 14 - i < n → ∀ (σ : mc_G), cCel a (c.1, pmA (jwA T c e).2 c.2 i) σ → cCel d e σ → cTyp T σ → offC a σ0 σ → Wp miX0_joinWith 5 [(0, .inr (some a)), (1, .inr (some d)), (2, .inr (some 1)), (3, .inl x5), (4, .inl x3)] [] σ (fun rv σ' => rv = some (.inl (bI (jcA T c e (8 + c.1)))) ∧ cCel a (jwA T c e) σ' ∧ offC a σ0 σ') := by
  intro n
  induction n with
  | zero => intro i x3 hz3 g x5 hz5 hi14 hg hin σ hc; exfalso; have := hc.2.1; omega
  | succ n ih =>
    intro i x3 hz3 g x5 hz5 hi14 hg hin σ hc he hT ho
    have hh6 : c.1 ≤ 6 := hc.2.1
    have he6 := he.2.1
    have hke : kA e i < 300 := by unfold kA; split; exact (he.2.2 i (by omega)).2; decide
    iterate 3 refine Wp.go rfl ?_
    refine Wp.geN (a := i) (b := 14) hz3 (rfl : _ = nI 14) (by first | omega | exact Nat.lt_trans (hc.rp (by omega)).2 (by decide) | exact jnA_lt hO (hc.rp (by omega)).2 hke | exact Nat.lt_trans (jnA_lt hO (hc.rp (by omega)).2 hke) (by decide)) (by first | omega | exact Nat.lt_trans (hc.rp (by omega)).2 (by decide) | exact jnA_lt hO (hc.rp (by omega)).2 hke | exact Nat.lt_trans (jnA_lt hO (hc.rp (by omega)).2 hke) (by decide)) (fun (h1 : ¬ i < 14) => ?_) (fun (h1 : i < 14) => ?_)
    · refine Wp.go rfl ?_
      refine Wp.ret (if_pos (Or.inr (bE_01 hz5))) ?_
      first | (exfalso; omega) | skip
      refine ⟨rvB hz5 (by rw [hg, show 8 + c.1 = i by omega]), ?_, ho⟩
      exact hc.cg (fun j hj => by unfold pmA; split; rfl; rw [if_neg (by omega)])
    · iterate 2 refine Wp.go rfl ?_
      refine Wp.call (if_pos ⟨(hC).1, (hC).2.1, Nat.le_of_ble_eq_true rfl, Nat.le_of_ble_eq_true rfl⟩) cqX0_holds (sX0_holds (σ := σ) (c := (c.1, pmA (jwA T c e).2 c.2 i)) hC (hc) hz3 (by first | omega | exact Nat.lt_trans (hc.rp (by omega)).2 (by decide) | exact jnA_lt hO (hc.rp (by omega)).2 hke | exact Nat.lt_trans (jnA_lt hO (hc.rp (by omega)).2 hke) (by decide))) (fun rv1 s1 hq1 => ?_)
      obtain ⟨rfl, hq1⟩ := hq1
      replace hq1 := hq1.symm
      subst hq1
      refine Wp.go rfl ?_
      refine Wp.beqD (p := i < 8 + c.1) rfl (fun (h2 : ¬ (i < 8 + c.1)) => ?_) (fun (h2 : i < 8 + c.1) => ?_)
      · refine Wp.go rfl ?_
        refine Wp.ret (if_pos (Or.inr (bE_01 hz5))) ?_
        first | (exfalso; omega) | skip
        refine ⟨rvB hz5 (by rw [hg, show 8 + c.1 = i by omega]), ?_, ho⟩
        exact hc.cg (fun j hj => by unfold pmA; split; rfl; rw [if_neg (by omega)])
      · iterate 2 refine Wp.go rfl ?_
        refine Wp.gC0 hC rfl ?_
        refine Wp.go rfl ?_
        refine Wp.ldC hC rfl (inE (n := 14) hz3 (by first | omega | exact Nat.lt_trans (hc.rp (by omega)).2 (by decide) | exact jnA_lt hO (hc.rp (by omega)).2 hke | exact Nat.lt_trans (jnA_lt hO (hc.rp (by omega)).2 hke) (by decide))) ?_
        iterate 2 refine Wp.go rfl ?_
        refine Wp.call (if_pos ⟨(hD).1, (hD).2.1, Nat.le_of_ble_eq_true rfl, Nat.le_of_ble_eq_true rfl⟩) cqX0_kindAt (sX0_kindAt (σ := σ) (c := e) hD (he) hz3 (by first | omega | exact Nat.lt_trans (hc.rp (by omega)).2 (by decide) | exact jnA_lt hO (hc.rp (by omega)).2 hke | exact Nat.lt_trans (jnA_lt hO (hc.rp (by omega)).2 hke) (by decide))) (fun rv2 s2 hq2 => ?_)
        obtain ⟨rfl, hq2⟩ := hq2
        replace hq2 := hq2.symm
        subst hq2
        refine Wp.call rfl cqX9_join (sX9_join (σ := σ) hT hO (rdE hz3 (by first | omega | exact Nat.lt_trans (hc.rp (by omega)).2 (by decide) | exact jnA_lt hO (hc.rp (by omega)).2 hke | exact Nat.lt_trans (jnA_lt hO (hc.rp (by omega)).2 hke) (by decide)) (hc.rp (by omega)).1) (by first | omega | exact Nat.lt_trans (hc.rp (by omega)).2 (by decide) | exact jnA_lt hO (hc.rp (by omega)).2 hke | exact Nat.lt_trans (jnA_lt hO (hc.rp (by omega)).2 hke) (by decide)) rfl (by first | omega | exact Nat.lt_trans (hc.rp (by omega)).2 (by decide) | exact jnA_lt hO (hc.rp (by omega)).2 hke | exact Nat.lt_trans (jnA_lt hO (hc.rp (by omega)).2 hke) (by decide))) (fun rv3 s3 hq3 => ?_)
        obtain ⟨rfl, hq3⟩ := hq3
        replace hq3 := hq3.symm
        subst hq3
        iterate 4 refine Wp.go rfl ?_
        refine Wp.gC0 hC rfl ?_
        refine Wp.go rfl ?_
        refine Wp.ldC hC rfl (inE (n := 14) hz3 (by first | omega | exact Nat.lt_trans (hc.rp (by omega)).2 (by decide) | exact jnA_lt hO (hc.rp (by omega)).2 hke | exact Nat.lt_trans (jnA_lt hO (hc.rp (by omega)).2 hke) (by decide))) ?_
        refine Wp.go rfl ?_
        refine Wp.eqN (a := jnA T (c.2 i) (kA e i)) (b := c.2 i) rfl (rdE hz3 (by first | omega | exact Nat.lt_trans (hc.rp (by omega)).2 (by decide) | exact jnA_lt hO (hc.rp (by omega)).2 hke | exact Nat.lt_trans (jnA_lt hO (hc.rp (by omega)).2 hke) (by decide)) (hc.rp (by omega)).1) (by first | omega | exact Nat.lt_trans (hc.rp (by omega)).2 (by decide) | exact jnA_lt hO (hc.rp (by omega)).2 hke | exact Nat.lt_trans (jnA_lt hO (hc.rp (by omega)).2 hke) (by decide)) (by first | omega | exact Nat.lt_trans (hc.rp (by omega)).2 (by decide) | exact jnA_lt hO (hc.rp (by omega)).2 hke | exact Nat.lt_trans (jnA_lt hO (hc.rp (by omega)).2 hke) (by decide)) (fun (h3 : jnA T (c.2 i) (kA e i) = c.2 i) => ?_) (fun (h3 : ¬ jnA T (c.2 i) (kA e i) = c.2 i) => ?_)
        · iterate 4 refine Wp.go rfl ?_
          refine Wp.gC0 hC rfl ?_
          iterate 2 refine Wp.go rfl ?_
          refine Wp.stC hC rfl (inE (n := 14) hz3 (by first | omega | exact Nat.lt_trans (hc.rp (by omega)).2 (by decide) | exact jnA_lt hO (hc.rp (by omega)).2 hke | exact Nat.lt_trans (jnA_lt hO (hc.rp (by omega)).2 hke) (by decide))) ?_
          iterate 2 refine Wp.go rfl ?_
          have hz : cCel a (c.1, va_up (pmA (jwA T c e).2 c.2 i) i (jnA T (c.2 i) (kA e i))) _ := (hc).k hz3 (by first | omega | exact Nat.lt_trans (hc.rp (by omega)).2 (by decide) | exact jnA_lt hO (hc.rp (by omega)).2 hke | exact Nat.lt_trans (jnA_lt hO (hc.rp (by omega)).2 hke) (by decide)) rfl (by first | omega | exact Nat.lt_trans (hc.rp (by omega)).2 (by decide) | exact jnA_lt hO (hc.rp (by omega)).2 hke | exact Nat.lt_trans (jnA_lt hO (hc.rp (by omega)).2 hke) (by decide))
          rw [pmA_up (F := (jwA T c e).2) (f := c.2) (i := i) (jwA_at h2)] at hz
          have hoz : offC a σ (mc_up σ (a + 1) x3.toNatClampNeg (nI (jnA T (c.2 i) (kA e i)))) := (offC.rf).k
          refine Wp.lo (lo := [(0, .inr (some a)), (1, .inr (some d)), (2, .inr (some 1)), (3, .inl _), (4, .inl _)]) ⟨rfl, rfl, rfl, rfl, rfl, trivial⟩ ?_
          exact ih (i + 1) _ (nE_add hz3 (rfl : _ = nI 1)) _ _ (orE hz5 (rfl : _ = bI false)) (by omega) (by rw [jcA_s, ← hg, jwA_at h2]; simp [h3]) (by omega) _ hz (he.off hoz hn) (hT.to (fun b hb1 hb2 => hoz b (by omega) (by omega))) (ho.tr hoz)
        · iterate 5 refine Wp.go rfl ?_
          refine Wp.gC0 hC rfl ?_
          iterate 2 refine Wp.go rfl ?_
          refine Wp.stC hC rfl (inE (n := 14) hz3 (by first | omega | exact Nat.lt_trans (hc.rp (by omega)).2 (by decide) | exact jnA_lt hO (hc.rp (by omega)).2 hke | exact Nat.lt_trans (jnA_lt hO (hc.rp (by omega)).2 hke) (by decide))) ?_
          iterate 2 refine Wp.go rfl ?_
          have hz : cCel a (c.1, va_up (pmA (jwA T c e).2 c.2 i) i (jnA T (c.2 i) (kA e i))) _ := (hc).k hz3 (by first | omega | exact Nat.lt_trans (hc.rp (by omega)).2 (by decide) | exact jnA_lt hO (hc.rp (by omega)).2 hke | exact Nat.lt_trans (jnA_lt hO (hc.rp (by omega)).2 hke) (by decide)) rfl (by first | omega | exact Nat.lt_trans (hc.rp (by omega)).2 (by decide) | exact jnA_lt hO (hc.rp (by omega)).2 hke | exact Nat.lt_trans (jnA_lt hO (hc.rp (by omega)).2 hke) (by decide))
          rw [pmA_up (F := (jwA T c e).2) (f := c.2) (i := i) (jwA_at h2)] at hz
          have hoz : offC a σ (mc_up σ (a + 1) x3.toNatClampNeg (nI (jnA T (c.2 i) (kA e i)))) := (offC.rf).k
          refine Wp.lo (lo := [(0, .inr (some a)), (1, .inr (some d)), (2, .inr (some 1)), (3, .inl _), (4, .inl _)]) ⟨rfl, rfl, rfl, rfl, rfl, trivial⟩ ?_
          exact ih (i + 1) _ (nE_add hz3 (rfl : _ = nI 1)) _ _ (orE hz5 (rfl : _ = bI true)) (by omega) (by rw [jcA_s, ← hg, jwA_at h2]; simp [h3]) (by omega) _ hz (he.off hoz hn) (hT.to (fun b hb1 hb2 => hoz b (by omega) (by omega))) (ho.tr hoz)
set_option maxRecDepth 100000 in
theorem sX0_joinWith {T : tT} {a d : Nat} {c e : cS} {σ : mc_G} (hT : cTyp T σ) (hO : tOk T) (hC : isC a) (hD : isC d) (hc : cCel a c σ) (he : cCel d e σ) (hn : apC a d) (h4a : 4 ≤ a) : Wp miX0_joinWith 0 [(0, .inr (some a)), (1, .inr (some d)), (2, .inr (some 1))] [] σ (fun rv σ' => rv = some (.inl (bI (jcA T c e (8 + c.1)))) ∧ cCel a (jwA T c e) σ' ∧ offC a σ σ') := by
  iterate 4 refine Wp.go rfl ?_
  refine Wp.lo (lo := [(0, .inr (some a)), (1, .inr (some d)), (2, .inr (some 1)), (3, .inl _), (4, .inl _)]) ⟨rfl, rfl, rfl, rfl, rfl, trivial⟩ ?_
  exact lX0_joinWith hO hC hD hn h4a 15 0 _ rfl _ _ (rfl : _ = bI false) (by omega) rfl (by omega) σ (by rw [pmA_0]; exact hc) he hT offC.rf

set_option maxRecDepth 100000 in
theorem sX0_height {a : Nat} {c : cS} {σ : mc_G} (hC : isC a) (hc : cCel a c σ) : Wp miX0_height 0 [(0, .inr (some a))] [] σ (fun rv σ' => rv = some (.inl (nI (c.1))) ∧ σ' = σ) := by
  have hh6 := hc.2.1
  refine Wp.go rfl ?_
  refine Wp.gC1 hC rfl ?_
  refine Wp.ret rfl ?_
  exact ⟨rvN (hc).1 (by rfl), rfl⟩
set_option maxRecDepth 100000 in
theorem sX0_holds {a : Nat} {c : cS} {σ : mc_G} (hC : isC a) (hc : cCel a c σ) {x : Int32} {p : Nat} (hx : x = nI p) (hp : p < 2 ^ 30) : Wp miX0_holds 0 [(0, .inr (some a)), (1, .inl x)] [] σ (fun rv σ' => rv = some (.inl (bI (decide (p < 8 + c.1)))) ∧ σ' = σ) := by
  have hh6 := hc.2.1
  iterate 2 refine Wp.go rfl ?_
  refine Wp.ltN (a := p) (b := 0) hx (rfl : _ = nI 0) (by omega) (by omega) (fun (h1 : p < 0) => ?_) (fun (h1 : ¬ p < 0) => ?_)
  · refine Wp.go rfl ?_
    refine Wp.ret rfl ?_
    exact ⟨rv0 (by simp; omega), rfl⟩
  · iterate 3 refine Wp.go rfl ?_
    refine Wp.gC1 hC rfl ?_
    iterate 2 refine Wp.go rfl ?_
    refine Wp.geN (a := p) (b := 8 + c.1) hx (nE_add (rfl : _ = nI 8) (hc).1) (by omega) (by omega) (fun (h2 : ¬ p < 8 + c.1) => ?_) (fun (h2 : p < 8 + c.1) => ?_)
    · refine Wp.go rfl ?_
      refine Wp.ret rfl ?_
      exact ⟨rv0 (by simp; omega), rfl⟩
    · iterate 3 refine Wp.go rfl ?_
      refine Wp.geN (a := p) (b := 14) hx (rfl : _ = nI 14) (by omega) (by omega) (fun (h3 : ¬ p < 14) => ?_) (fun (h3 : p < 14) => ?_)
      · refine Wp.go rfl ?_
        refine Wp.ret rfl ?_
        exact ⟨rv0 (by simp; omega), rfl⟩
      · iterate 2 refine Wp.go rfl ?_
        refine Wp.ret rfl ?_
        exact ⟨rv1 (by simp; omega), rfl⟩
set_option maxRecDepth 100000 in
theorem sX0_holds_n {a : Nat} {c : cS} {σ : mc_G} (hC : isC a) (hc : cCel a c σ) {x : Int32} (hx : x < 0) : Wp miX0_holds 0 [(0, .inr (some a)), (1, .inl x)] [] σ (fun rv σ' => rv = some (.inl (bI false)) ∧ σ' = σ) := by
  refine Wp.go rfl ?_
  refine Wp.go rfl ?_
  refine Wp.lt (fun h1 => ?_) (fun h1 => ?_)
  · refine Wp.go rfl ?_
    refine Wp.ret rfl ?_
    exact ⟨rv0 rfl, rfl⟩
  · exact absurd hx h1
set_option maxRecDepth 100000 in
theorem sX0_kindAt {a : Nat} {c : cS} {σ : mc_G} (hC : isC a) (hc : cCel a c σ) {x : Int32} {p : Nat} (hx : x = nI p) (hp : p < 2 ^ 30) : Wp miX0_kindAt 0 [(0, .inr (some a)), (1, .inl x)] [] σ (fun rv σ' => rv = some (.inl (nI (kA c p))) ∧ σ' = σ) := by
  have hh6 := hc.2.1
  iterate 2 refine Wp.go rfl ?_
  refine Wp.ltN (a := p) (b := 0) hx (rfl : _ = nI 0) (by omega) (by omega) (fun (h1 : p < 0) => ?_) (fun (h1 : ¬ p < 0) => ?_)
  · refine Wp.go rfl ?_
    refine Wp.ret rfl ?_
    exact ⟨rvN (rfl : _ = nI 0) (by simp only [kA]; first | (exfalso; omega) | (rw [if_neg (by omega)]; done) | (rw [if_pos (by omega)]; done)), rfl⟩
  · iterate 3 refine Wp.go rfl ?_
    refine Wp.gC1 hC rfl ?_
    iterate 2 refine Wp.go rfl ?_
    refine Wp.geN (a := p) (b := 8 + c.1) hx (nE_add (rfl : _ = nI 8) (hc).1) (by omega) (by omega) (fun (h2 : ¬ p < 8 + c.1) => ?_) (fun (h2 : p < 8 + c.1) => ?_)
    · refine Wp.go rfl ?_
      refine Wp.ret rfl ?_
      exact ⟨rvN (rfl : _ = nI 0) (by simp only [kA]; first | (exfalso; omega) | (rw [if_neg (by omega)]; done) | (rw [if_pos (by omega)]; done)), rfl⟩
    · iterate 3 refine Wp.go rfl ?_
      refine Wp.geN (a := p) (b := 14) hx (rfl : _ = nI 14) (by omega) (by omega) (fun (h3 : ¬ p < 14) => ?_) (fun (h3 : p < 14) => ?_)
      · refine Wp.go rfl ?_
        refine Wp.ret rfl ?_
        exact ⟨rvN (rfl : _ = nI 0) (by simp only [kA]; first | (exfalso; omega) | (rw [if_neg (by omega)]; done) | (rw [if_pos (by omega)]; done)), rfl⟩
      · refine Wp.go rfl ?_
        refine Wp.gC0 hC rfl ?_
        refine Wp.go rfl ?_
        refine Wp.ldC hC rfl (inE (n := 14) hx (by omega)) ?_
        refine Wp.go rfl ?_
        refine Wp.ret rfl ?_
        exact ⟨rvN (rdE hx (by omega) ((hc).2.2 p (by omega)).1) (by simp only [kA]; first | (exfalso; omega) | (rw [if_neg (by omega)]; done) | (rw [if_pos (by omega)]; done)), rfl⟩
set_option maxRecDepth 100000 in
theorem sX0_put {a : Nat} {c : cS} {σ : mc_G} (hC : isC a) (hc : cCel a c σ) {x : Int32} {p : Nat} (hx : x = nI p) (hp : p < 2 ^ 30) {z : Int32} {q : Nat} (hq : z = nI q) (hq3 : q < 300) : Wp miX0_put 0 [(0, .inr (some a)), (1, .inl x), (2, .inl z)] [] σ (fun rv σ' => rv = none ∧ cCel a (ptA c p q) σ' ∧ offC a σ σ') := by
  have hh6 := hc.2.1
  iterate 2 refine Wp.go rfl ?_
  refine Wp.ltN (a := p) (b := 0) hx (rfl : _ = nI 0) (by omega) (by omega) (fun (h1 : p < 0) => ?_) (fun (h1 : ¬ p < 0) => ?_)
  · refine Wp.ret rfl ?_
    refine ⟨rfl, ?_, offC.rf⟩
    have hz := hc
    simp only [ptA]; first | (rw [if_pos (by omega)]; exact hz) | (rw [if_neg (by omega)]; exact hz)
  · iterate 3 refine Wp.go rfl ?_
    refine Wp.gC1 hC rfl ?_
    iterate 2 refine Wp.go rfl ?_
    refine Wp.geN (a := p) (b := 8 + c.1) hx (nE_add (rfl : _ = nI 8) (hc).1) (by omega) (by omega) (fun (h2 : ¬ p < 8 + c.1) => ?_) (fun (h2 : p < 8 + c.1) => ?_)
    · refine Wp.ret rfl ?_
      refine ⟨rfl, ?_, offC.rf⟩
      have hz := hc
      simp only [ptA]; first | (rw [if_pos (by omega)]; exact hz) | (rw [if_neg (by omega)]; exact hz)
    · iterate 3 refine Wp.go rfl ?_
      refine Wp.geN (a := p) (b := 14) hx (rfl : _ = nI 14) (by omega) (by omega) (fun (h3 : ¬ p < 14) => ?_) (fun (h3 : p < 14) => ?_)
      · refine Wp.ret rfl ?_
        refine ⟨rfl, ?_, offC.rf⟩
        have hz := hc
        simp only [ptA]; first | (rw [if_pos (by omega)]; exact hz) | (rw [if_neg (by omega)]; exact hz)
      · refine Wp.go rfl ?_
        refine Wp.gC0 hC rfl ?_
        iterate 2 refine Wp.go rfl ?_
        refine Wp.stC hC rfl (inE (n := 14) hx (by omega)) ?_
        refine Wp.ret rfl ?_
        refine ⟨rfl, ?_, (offC.rf).k⟩
        have hz := (hc).k hx (by omega) hq (by omega)
        simp only [ptA]; first | (rw [if_pos (by omega)]; exact hz) | (rw [if_neg (by omega)]; exact hz)
set_option maxRecDepth 100000 in
theorem sX0_fromTop {a : Nat} {c : cS} {σ : mc_G} (hC : isC a) (hc : cCel a c σ) {x : Int32} {p : Nat} (hx : x = nI p) (hp : p ≤ 7) : Wp miX0_fromTop 0 [(0, .inr (some a)), (1, .inl x)] [] σ (fun rv σ' => rv = some (.inl (nI (tpA c p))) ∧ σ' = σ) := by
  have hh6 := hc.2.1
  iterate 2 refine Wp.go rfl ?_
  refine Wp.gC1 hC rfl ?_
  iterate 9 refine Wp.go rfl ?_
  refine Wp.ltN (a := ((8 + c.1) - 1) - p) (b := 8) (nE_sub (nE_sub (nE_add (rfl : _ = nI 8) (hc).1) (rfl : _ = nI 1) (by omega)) hx (by omega)) (rfl : _ = nI 8) (by omega) (by omega) (fun (h1 : ((8 + c.1) - 1) - p < 8) => ?_) (fun (h1 : ¬ ((8 + c.1) - 1) - p < 8) => ?_)
  · refine Wp.go rfl ?_
    refine Wp.ret rfl ?_
    exact ⟨rvN (rfl : _ = nI 0) (by simp only [tpA, kA]; first | (rw [if_neg (by omega)]; done) | (rw [if_pos (by omega), if_pos (by omega), show 8 + c.1 - 1 - p = 7 + c.1 - p by omega])), rfl⟩
  · iterate 2 refine Wp.go rfl ?_
    refine Wp.call (if_pos ⟨(hC).1, (hC).2.1, Nat.le_of_ble_eq_true rfl, Nat.le_of_ble_eq_true rfl⟩) cqX0_kindAt (sX0_kindAt (σ := σ) (c := c) hC (hc) (nE_sub (nE_sub (nE_add (rfl : _ = nI 8) (hc).1) (rfl : _ = nI 1) (by omega)) hx (by omega)) (by omega)) (fun rv1 s1 hq1 => ?_)
    obtain ⟨rfl, hq1⟩ := hq1
    replace hq1 := hq1.symm
    subst hq1
    refine Wp.go rfl ?_
    refine Wp.ret rfl ?_
    exact ⟨rvN rfl (by simp only [tpA, kA]; first | (rw [if_neg (by omega)]; done) | (rw [if_pos (by omega), if_pos (by omega), show 8 + c.1 - 1 - p = 7 + c.1 - p by omega])), rfl⟩
set_option maxRecDepth 100000 in
theorem sX0_push {a : Nat} {c : cS} {σ : mc_G} (hC : isC a) (hc : cCel a c σ) {z : Int32} {q : Nat} (hq : z = nI q) (hq3 : q < 300) : Wp miX0_push 0 [(0, .inr (some a)), (1, .inl z)] [] σ (fun rv σ' => rv = none ∧ cCel a (psA c q) σ' ∧ offC a σ σ') := by
  have hh6 := hc.2.1
  refine Wp.go rfl ?_
  refine Wp.gC1 hC rfl ?_
  refine Wp.go rfl ?_
  refine Wp.ltN (a := c.1) (b := 0) (hc).1 (rfl : _ = nI 0) (by omega) (by omega) (fun (h1 : c.1 < 0) => ?_) (fun (h1 : ¬ c.1 < 0) => ?_)
  · refine Wp.ret rfl ?_
    refine ⟨rfl, ?_, offC.rf⟩
    have hz := hc
    simp only [psA]; first | (rw [if_pos (by omega)]; exact hz) | (rw [if_neg (by omega)]; exact hz)
  · refine Wp.go rfl ?_
    refine Wp.gC1 hC rfl ?_
    iterate 2 refine Wp.go rfl ?_
    refine Wp.geN (a := c.1) (b := 6) (hc).1 (rfl : _ = nI 6) (by omega) (by omega) (fun (h2 : ¬ c.1 < 6) => ?_) (fun (h2 : c.1 < 6) => ?_)
    · refine Wp.ret rfl ?_
      refine ⟨rfl, ?_, offC.rf⟩
      have hz := hc
      simp only [psA]; first | (rw [if_pos (by omega)]; exact hz) | (rw [if_neg (by omega)]; exact hz)
    · refine Wp.go rfl ?_
      refine Wp.gC0 hC rfl ?_
      iterate 2 refine Wp.go rfl ?_
      refine Wp.gC1 hC rfl ?_
      iterate 2 refine Wp.go rfl ?_
      refine Wp.stC hC rfl (inE (n := 14) (nE_add (rfl : _ = nI 8) (hc).1) (by omega)) ?_
      iterate 2 refine Wp.go rfl ?_
      refine Wp.gC1 hC rfl ?_
      iterate 2 refine Wp.go rfl ?_
      refine Wp.pC1 hC rfl ?_
      refine Wp.ret rfl ?_
      refine ⟨rfl, ?_, ((offC.rf).k).h⟩
      have hz := ((hc).k (nE_add (rfl : _ = nI 8) (hc).1) (by omega) hq (by omega)).h (nE_add ((hc).k (nE_add (rfl : _ = nI 8) (hc).1) (by omega) hq (by omega)).1 (rfl : _ = nI 1)) (by omega)
      simp only [psA]; first | (rw [if_pos (by omega)]; exact hz) | (rw [if_neg (by omega)]; exact hz)
set_option maxRecDepth 100000 in
theorem sX0_pushLong {a : Nat} {c : cS} {σ : mc_G} (hC : isC a) (hc : cCel a c σ) : Wp miX0_pushLong 0 [(0, .inr (some a))] [] σ (fun rv σ' => rv = none ∧ cCel a (psA (psA c 2) 3) σ' ∧ offC a σ σ') := by
  have hh6 := hc.2.1
  iterate 2 refine Wp.go rfl ?_
  refine Wp.call (if_pos ⟨(hC).1, (hC).2.1, Nat.le_of_ble_eq_true rfl, Nat.le_of_ble_eq_true rfl⟩) cqX0_push (sX0_push (σ := σ) (c := c) hC (hc) (rfl : _ = nI 2) (by omega)) (fun rv1 s1 hq1 => ?_)
  obtain ⟨rfl, hc1, ho1⟩ := hq1
  iterate 2 refine Wp.go rfl ?_
  refine Wp.call (if_pos ⟨(hC).1, (hC).2.1, Nat.le_of_ble_eq_true rfl, Nat.le_of_ble_eq_true rfl⟩) cqX0_push (sX0_push (σ := s1) (c := (psA c 2)) hC (hc1) (rfl : _ = nI 3) (by omega)) (fun rv2 s2 hq2 => ?_)
  obtain ⟨rfl, hc2, ho2⟩ := hq2
  refine Wp.ret rfl ?_
  exact ⟨rfl, hc2, ((offC.rf).tr ho1).tr ho2⟩
set_option maxRecDepth 100000 in
theorem sX0_drop {a : Nat} {c : cS} {σ : mc_G} (hC : isC a) (hc : cCel a c σ) {x : Int32} {p : Nat} (hx : x = nI p) (hp : p ≤ 100) : Wp miX0_drop 0 [(0, .inr (some a)), (1, .inl x)] [] σ (fun rv σ' => rv = none ∧ cCel a (drA c p) σ' ∧ offC a σ σ') := by
  have hh6 := hc.2.1
  iterate 3 refine Wp.go rfl ?_
  refine Wp.gC1 hC rfl ?_
  iterate 3 refine Wp.go rfl ?_
  refine Wp.pC1 hC rfl ?_
  refine Wp.ret rfl ?_
  exact ⟨rfl, (hc).h (maxE0 (hc).1 hx (by omega) (by omega)) (by omega), (offC.rf).h⟩
set_option maxRecDepth 100000 in
theorem sX0_breakLong {a : Nat} {c : cS} {σ : mc_G} (hC : isC a) (hc : cCel a c σ) {x : Int32} {p : Nat} (hx : x = nI p) (hp : p < 14) : Wp miX0_breakLong 0 [(0, .inr (some a)), (1, .inl x)] [] σ (fun rv σ' => rv = none ∧ cCel a (bkA c p) σ' ∧ offC a σ σ') := by
  have hh6 := hc.2.1
  have hkk : kA c p < 300 := by unfold kA; split; exact (hc.2.2 p (by omega)).2; decide
  have hkl : p < 8 + c.1 ∨ kA c p = 0 := by
    by_cases e : p < 8 + c.1
    · exact Or.inl e
    · exact Or.inr (if_neg e)
  iterate 2 refine Wp.go rfl ?_
  refine Wp.call (if_pos ⟨(hC).1, (hC).2.1, Nat.le_of_ble_eq_true rfl, Nat.le_of_ble_eq_true rfl⟩) cqX0_kindAt (sX0_kindAt (σ := σ) (c := c) hC (hc) hx (by omega)) (fun rv1 s1 hq1 => ?_)
  obtain ⟨rfl, hq1⟩ := hq1
  replace hq1 := hq1.symm
  subst hq1
  iterate 4 refine Wp.go rfl ?_
  refine Wp.neN (a := kA c p) (b := 2) rfl (rfl : _ = nI 2) (by omega) (by omega) (fun (h1 : ¬ kA c p = 2) => ?_) (fun (h1 : kA c p = 2) => ?_)
  · iterate 3 refine Wp.go rfl ?_
    refine Wp.neN (a := kA c p) (b := 3) rfl (rfl : _ = nI 3) (by omega) (by omega) (fun (h2 : ¬ kA c p = 3) => ?_) (fun (h2 : kA c p = 3) => ?_)
    · refine Wp.ret rfl ?_
      refine ⟨rfl, ?_, offC.rf⟩
      have hz := hc
      simp only [bkA]
      first | (rw [if_pos ⟨by omega, by omega⟩]; unfold ptA at hz; rw [if_pos (by omega)] at hz; exact hz) | (rw [if_neg (by omega), if_pos ⟨by omega, by omega⟩]; unfold ptA at hz; rw [if_pos (by omega)] at hz; exact hz) | (rw [if_neg (by omega), if_neg (by omega)]; exact hz)
    · iterate 2 refine Wp.go rfl ?_
      refine Wp.leN (a := p) (b := 0) hx (rfl : _ = nI 0) (by omega) (by omega) (fun (h3 : ¬ 0 < p) => ?_) (fun (h3 : 0 < p) => ?_)
      · refine Wp.ret rfl ?_
        refine ⟨rfl, ?_, offC.rf⟩
        have hz := hc
        simp only [bkA]
        first | (rw [if_pos ⟨by omega, by omega⟩]; unfold ptA at hz; rw [if_pos (by omega)] at hz; exact hz) | (rw [if_neg (by omega), if_pos ⟨by omega, by omega⟩]; unfold ptA at hz; rw [if_pos (by omega)] at hz; exact hz) | (rw [if_neg (by omega), if_neg (by omega)]; exact hz)
      · iterate 5 refine Wp.go rfl ?_
        refine Wp.call (if_pos ⟨(hC).1, (hC).2.1, Nat.le_of_ble_eq_true rfl, Nat.le_of_ble_eq_true rfl⟩) cqX0_put (sX0_put (σ := σ) (c := c) hC (hc) (nE_sub hx (rfl : _ = nI 1) (by omega)) (by omega) (rfl : _ = nI 0) (by omega)) (fun rv2 s2 hq2 => ?_)
        obtain ⟨rfl, hc2, ho2⟩ := hq2
        refine Wp.ret rfl ?_
        refine ⟨rfl, ?_, (offC.rf).tr ho2⟩
        have hz := hc2
        simp only [bkA]
        first | (rw [if_pos ⟨by omega, by omega⟩]; unfold ptA at hz; rw [if_pos (by omega)] at hz; exact hz) | (rw [if_neg (by omega), if_pos ⟨by omega, by omega⟩]; unfold ptA at hz; rw [if_pos (by omega)] at hz; exact hz) | (rw [if_neg (by omega), if_neg (by omega)]; exact hz)
  · iterate 5 refine Wp.go rfl ?_
    refine Wp.geN (a := p + 1) (b := 8) (nE_add hx (rfl : _ = nI 1)) (rfl : _ = nI 8) (by omega) (by omega) (fun (h4 : ¬ p + 1 < 8) => ?_) (fun (h4 : p + 1 < 8) => ?_)
    · iterate 3 refine Wp.go rfl ?_
      refine Wp.neN (a := kA c p) (b := 3) rfl (rfl : _ = nI 3) (by omega) (by omega) (fun (h5 : ¬ kA c p = 3) => ?_) (fun (h5 : kA c p = 3) => ?_)
      · refine Wp.ret rfl ?_
        refine ⟨rfl, ?_, offC.rf⟩
        have hz := hc
        simp only [bkA]
        first | (rw [if_pos ⟨by omega, by omega⟩]; unfold ptA at hz; rw [if_pos (by omega)] at hz; exact hz) | (rw [if_neg (by omega), if_pos ⟨by omega, by omega⟩]; unfold ptA at hz; rw [if_pos (by omega)] at hz; exact hz) | (rw [if_neg (by omega), if_neg (by omega)]; exact hz)
      · iterate 2 refine Wp.go rfl ?_
        refine Wp.leN (a := p) (b := 0) hx (rfl : _ = nI 0) (by omega) (by omega) (fun (h6 : ¬ 0 < p) => ?_) (fun (h6 : 0 < p) => ?_)
        · refine Wp.ret rfl ?_
          refine ⟨rfl, ?_, offC.rf⟩
          have hz := hc
          simp only [bkA]
          first | (rw [if_pos ⟨by omega, by omega⟩]; unfold ptA at hz; rw [if_pos (by omega)] at hz; exact hz) | (rw [if_neg (by omega), if_pos ⟨by omega, by omega⟩]; unfold ptA at hz; rw [if_pos (by omega)] at hz; exact hz) | (rw [if_neg (by omega), if_neg (by omega)]; exact hz)
        · iterate 5 refine Wp.go rfl ?_
          refine Wp.call (if_pos ⟨(hC).1, (hC).2.1, Nat.le_of_ble_eq_true rfl, Nat.le_of_ble_eq_true rfl⟩) cqX0_put (sX0_put (σ := σ) (c := c) hC (hc) (nE_sub hx (rfl : _ = nI 1) (by omega)) (by omega) (rfl : _ = nI 0) (by omega)) (fun rv3 s3 hq3 => ?_)
          obtain ⟨rfl, hc3, ho3⟩ := hq3
          refine Wp.ret rfl ?_
          refine ⟨rfl, ?_, (offC.rf).tr ho3⟩
          have hz := hc3
          simp only [bkA]
          first | (rw [if_pos ⟨by omega, by omega⟩]; unfold ptA at hz; rw [if_pos (by omega)] at hz; exact hz) | (rw [if_neg (by omega), if_pos ⟨by omega, by omega⟩]; unfold ptA at hz; rw [if_pos (by omega)] at hz; exact hz) | (rw [if_neg (by omega), if_neg (by omega)]; exact hz)
    · iterate 5 refine Wp.go rfl ?_
      refine Wp.call (if_pos ⟨(hC).1, (hC).2.1, Nat.le_of_ble_eq_true rfl, Nat.le_of_ble_eq_true rfl⟩) cqX0_put (sX0_put (σ := σ) (c := c) hC (hc) (nE_add hx (rfl : _ = nI 1)) (by omega) (rfl : _ = nI 0) (by omega)) (fun rv4 s4 hq4 => ?_)
      obtain ⟨rfl, hc4, ho4⟩ := hq4
      refine Wp.go rfl ?_
      refine Wp.ret rfl ?_
      refine ⟨rfl, ?_, (offC.rf).tr ho4⟩
      have hz := hc4
      simp only [bkA]
      first | (rw [if_pos ⟨by omega, by omega⟩]; unfold ptA at hz; rw [if_pos (by omega)] at hz; exact hz) | (rw [if_neg (by omega), if_pos ⟨by omega, by omega⟩]; unfold ptA at hz; rw [if_pos (by omega)] at hz; exact hz) | (rw [if_neg (by omega), if_neg (by omega)]; exact hz)
set_option maxRecDepth 100000 in
theorem sX0_store {a : Nat} {c : cS} {σ : mc_G} (hC : isC a) (hc : cCel a c σ) {x : Int32} {p : Nat} (hx : x = nI p) (hp : p < 8) {z : Int32} {q : Nat} (hq : z = nI q) (hq3 : q < 300) : Wp miX0_store 0 [(0, .inr (some a)), (1, .inl x), (2, .inl z)] [] σ (fun rv σ' => rv = none ∧ cCel a (soA c p q) σ' ∧ offC a σ σ') := by
  have hh6 := hc.2.1
  iterate 2 refine Wp.go rfl ?_
  refine Wp.call (if_pos ⟨(hC).1, (hC).2.1, Nat.le_of_ble_eq_true rfl, Nat.le_of_ble_eq_true rfl⟩) cqX0_breakLong (sX0_breakLong (σ := σ) (c := c) hC (hc) hx (by omega)) (fun rv1 s1 hq1 => ?_)
  obtain ⟨rfl, hc1, ho1⟩ := hq1
  iterate 3 refine Wp.go rfl ?_
  refine Wp.call (if_pos ⟨(hC).1, (hC).2.1, Nat.le_of_ble_eq_true rfl, Nat.le_of_ble_eq_true rfl⟩) cqX0_put (sX0_put (σ := s1) (c := (bkA c p)) hC (hc1) hx (by omega) hq (by omega)) (fun rv2 s2 hq2 => ?_)
  obtain ⟨rfl, hc2, ho2⟩ := hq2
  refine Wp.ret rfl ?_
  exact ⟨rfl, hc2, ((offC.rf).tr ho1).tr ho2⟩
set_option maxRecDepth 100000 in
theorem sX0_storeLong {a : Nat} {c : cS} {σ : mc_G} (hC : isC a) (hc : cCel a c σ) {x : Int32} {p : Nat} (hx : x = nI p) (hp : p < 7) : Wp miX0_storeLong 0 [(0, .inr (some a)), (1, .inl x)] [] σ (fun rv σ' => rv = none ∧ cCel a (slA c p) σ' ∧ offC a σ σ') := by
  have hh6 := hc.2.1
  iterate 2 refine Wp.go rfl ?_
  refine Wp.call (if_pos ⟨(hC).1, (hC).2.1, Nat.le_of_ble_eq_true rfl, Nat.le_of_ble_eq_true rfl⟩) cqX0_breakLong (sX0_breakLong (σ := σ) (c := c) hC (hc) hx (by omega)) (fun rv1 s1 hq1 => ?_)
  obtain ⟨rfl, hc1, ho1⟩ := hq1
  iterate 4 refine Wp.go rfl ?_
  refine Wp.call (if_pos ⟨(hC).1, (hC).2.1, Nat.le_of_ble_eq_true rfl, Nat.le_of_ble_eq_true rfl⟩) cqX0_breakLong (sX0_breakLong (σ := s1) (c := (bkA c p)) hC (hc1) (nE_add hx (rfl : _ = nI 1)) (by omega)) (fun rv2 s2 hq2 => ?_)
  obtain ⟨rfl, hc2, ho2⟩ := hq2
  iterate 3 refine Wp.go rfl ?_
  refine Wp.call (if_pos ⟨(hC).1, (hC).2.1, Nat.le_of_ble_eq_true rfl, Nat.le_of_ble_eq_true rfl⟩) cqX0_put (sX0_put (σ := s2) (c := (bkA (bkA c p) (p + 1))) hC (hc2) hx (by omega) (rfl : _ = nI 2) (by omega)) (fun rv3 s3 hq3 => ?_)
  obtain ⟨rfl, hc3, ho3⟩ := hq3
  iterate 5 refine Wp.go rfl ?_
  refine Wp.call (if_pos ⟨(hC).1, (hC).2.1, Nat.le_of_ble_eq_true rfl, Nat.le_of_ble_eq_true rfl⟩) cqX0_put (sX0_put (σ := s3) (c := (ptA (bkA (bkA c p) (p + 1)) p 2)) hC (hc3) (nE_add hx (rfl : _ = nI 1)) (by omega) (rfl : _ = nI 3) (by omega)) (fun rv4 s4 hq4 => ?_)
  obtain ⟨rfl, hc4, ho4⟩ := hq4
  refine Wp.ret rfl ?_
  exact ⟨rfl, hc4, ((((offC.rf).tr ho1).tr ho2).tr ho3).tr ho4⟩
set_option maxRecDepth 100000 in
theorem lX0_replaceAll {a : Nat} {c : cS} (hC : isC a) {z w : Int32} {q r : Nat} (hq : z = nI q) (hq3 : q < 300) (hw : w = nI r) (hr3 : r < 300) {σ0 : mc_G} : ∀ (n i : Nat) (x3 : Int32), x3 = nI i → i ≤ 14 → 14 - i < n → ∀ (σ : mc_G), cCel a (c.1, pmA (fun j => if c.2 j = q then r else c.2 j) c.2 i) σ → offC a σ0 σ → Wp miX0_replaceAll 2 [(3, .inl x3), (0, .inr (some a)), (1, .inl z), (2, .inl w)] [] σ (fun rv σ' => rv = none ∧ cCel a (rpA c q r) σ' ∧ offC a σ0 σ') := by
  intro n
  induction n with
  | zero => intro i x3 h3 hi14 hin; exfalso; omega
  | succ n ih =>
    intro i x3 h3 hi14 hin σ hc ho
    have hh6 : c.1 ≤ 6 := hc.2.1
    have hb3 : i < 14 → c.2 i < 300 := fun hj => (hc.rp hj).2
    iterate 3 refine Wp.go rfl ?_
    refine Wp.geN (a := i) (b := 14) h3 (rfl : _ = nI 14) (by omega) (by omega) (fun (h1 : ¬ i < 14) => ?_) (fun (h1 : i < 14) => ?_)
    · refine Wp.ret rfl ?_
      exact ⟨rfl, hc.pm (by omega), ho⟩
    · refine Wp.go rfl ?_
      refine Wp.gC0 hC rfl ?_
      refine Wp.go rfl ?_
      refine Wp.ldC hC rfl (inE (n := 14) h3 (by omega)) ?_
      iterate 2 refine Wp.go rfl ?_
      refine Wp.neN (a := c.2 i) (b := q) (rdE h3 (by omega) (hc.rp (by omega)).1) hq (by omega) (by omega) (fun (h2 : ¬ c.2 i = q) => ?_) (fun (h2 : c.2 i = q) => ?_)
      · iterate 2 refine Wp.go rfl ?_
        have hz := hc
        rw [pmA_sk (F := (fun j => if c.2 j = q then r else c.2 j)) (f := c.2) (i := i) (by simp [h2])] at hz
        exact ih (i + 1) _ (nE_add h3 (rfl : _ = nI 1)) (by omega) (by omega) _ hz (ho.tr offC.rf)
      · refine Wp.go rfl ?_
        refine Wp.gC0 hC rfl ?_
        iterate 2 refine Wp.go rfl ?_
        refine Wp.stC hC rfl (inE (n := 14) h3 (by omega)) ?_
        iterate 2 refine Wp.go rfl ?_
        have hz : cCel a (c.1, va_up (pmA (fun j => if c.2 j = q then r else c.2 j) c.2 i) i r) _ := (hc).k h3 (by omega) hw (by omega)
        rw [pmA_up (F := (fun j => if c.2 j = q then r else c.2 j)) (f := c.2) (i := i) (by simp [h2])] at hz
        exact ih (i + 1) _ (nE_add h3 (rfl : _ = nI 1)) (by omega) (by omega) _ hz (ho.tr (offC.rf).k)
set_option maxRecDepth 100000 in
theorem sX0_replaceAll {a : Nat} {c : cS} {σ : mc_G} (hC : isC a) (hc : cCel a c σ) {z w : Int32} {q r : Nat} (hq : z = nI q) (hq3 : q < 300) (hw : w = nI r) (hr3 : r < 300) : Wp miX0_replaceAll 0 [(0, .inr (some a)), (1, .inl z), (2, .inl w)] [] σ (fun rv σ' => rv = none ∧ cCel a (rpA c q r) σ' ∧ offC a σ σ') := by
  iterate 2 refine Wp.go rfl ?_
  exact lX0_replaceAll hC hq hq3 hw hr3 15 0 _ rfl (by omega) (by omega) σ (by rw [pmA_0]; exact hc) offC.rf
set_option maxRecDepth 100000 in
theorem lX0_becomeTops {a : Nat} {f : Nat → Nat} (hC : isC a) {x : Int32} {p : Nat} (hx : x = nI p) (hp : p ≤ 6) {σ0 : mc_G} : ∀ (n i : Nat) (x3 : Int32), x3 = nI i → i ≤ 14 → 14 - i < n → ∀ (σ : mc_G), cCel a (p, pmA (fun _ => 0) f i) σ → offC a σ0 σ → Wp miX0_becomeTops 16 [(2, .inl x3), (0, .inr (some a)), (1, .inl x)] [] σ (fun rv σ' => rv = none ∧ cCel a (p, fun _ => 0) σ' ∧ offC a σ0 σ') := by
  intro n
  induction n with
  | zero => intro i x3 h3 hi14 hin; exfalso; omega
  | succ n ih =>
    intro i x3 h3 hi14 hin σ hc ho
    iterate 3 refine Wp.go rfl ?_
    refine Wp.geN (a := i) (b := 14) h3 (rfl : _ = nI 14) (by omega) (by omega) (fun (h1 : ¬ i < 14) => ?_) (fun (h1 : i < 14) => ?_)
    · refine Wp.ret rfl ?_
      exact ⟨rfl, hc.pm (by omega), ho⟩
    · refine Wp.go rfl ?_
      refine Wp.gC0 hC rfl ?_
      iterate 2 refine Wp.go rfl ?_
      refine Wp.stC hC rfl (inE (n := 14) h3 (by omega)) ?_
      iterate 2 refine Wp.go rfl ?_
      have hz : cCel a (p, va_up (pmA (fun _ => 0) f i) i 0) _ := (hc).k h3 (by omega) (rfl : _ = nI 0) (by omega)
      rw [pmA_up rfl] at hz
      exact ih (i + 1) _ (nE_add h3 (rfl : _ = nI 1)) (by omega) (by omega) _ hz (ho.tr (offC.rf).k)
set_option maxRecDepth 100000 in
theorem sX0_becomeTops {a : Nat} {c : cS} {σ : mc_G} (hC : isC a) (hc : cCel a c σ) {x : Int32} {p : Nat} (hx : x = nI p) (hp : p ≤ 6) : Wp miX0_becomeTops 0 [(0, .inr (some a)), (1, .inl x)] [] σ (fun rv σ' => rv = none ∧ cCel a (p, fun _ => 0) σ' ∧ offC a σ σ') := by
  have hh6 := hc.2.1
  iterate 5 refine Wp.go rfl ?_
  refine Wp.go rfl ?_
  refine Wp.pC1 hC rfl ?_
  iterate 2 refine Wp.go rfl ?_
  have hz : cCel a (p, c.2) _ := (hc).h (minmaxE hx hp) (by omega)
  exact lX0_becomeTops (f := c.2) hC hx hp 15 0 _ rfl (by omega) (by omega) _ (by rw [pmA_0]; exact hz) (offC.rf).h
/-- a row is copied whole -/
theorem Wp.cpC {cd : List mc_I} {pc : Nat} {lo : List (Nat × mc_V)} {σ : mc_G} {Φ : Option mc_V → mc_G → Prop} {a d idx : Nat} {q1 q2 q3 q4 : Nat} {z1 z2 n : Int32} (hC : isC a) (hD : isC d) (h1 : z1 = nI 0) (h2 : z2 = nI 0) (h3 : n = nI 14) (hf : mc_find cd pc = some (.invokestatic idx, 3, [9999, q1, q2, q3, q4])) (k : Wp cd (pc + 3) lo [] (mc_row σ (a + 1) (va_cpy (σ (d + 1)) (σ (a + 1)) 0 0 14)) Φ) : Wp cd pc lo [.inl n, .inl z1, .inr (some (a + 1)), .inl z2, .inr (some (d + 1))] σ Φ := by
  subst h1 h2 h3
  refine Wp.go ?_ k
  unfold mc_stp
  rw [hf]
  show (if false = false ∧ a + 1 < 187 ∧ d + 1 < 187 ∧ (mc_ty (a + 1)).1 = 0 ∧ (mc_ty (d + 1)).1 = 0 ∧ ¬ (nI 0) < 0 ∧ ¬ (nI 0) < 0 ∧ ¬ (nI 14) < 0 ∧ (nI 0).toNatClampNeg + (nI 14).toNatClampNeg ≤ (mc_ty (d + 1)).2 ∧ (nI 0).toNatClampNeg + (nI 14).toNatClampNeg ≤ (mc_ty (a + 1)).2 then mc_go (pc + 3) lo [] (187, rh0, mc_row σ (a + 1) (va_cpy (σ (d + 1)) (σ (a + 1)) (nI 0).toNatClampNeg (nI 0).toNatClampNeg (nI 14).toNatClampNeg)) else none) = _
  rw [if_pos ⟨rfl, hC.2.2.2.2.1, hD.2.2.2.2.1, by rw [hC.2.2.2.2.2], by rw [hD.2.2.2.2.2], by decide, by decide, by decide, by rw [hD.2.2.2.2.2]; decide, by rw [hC.2.2.2.2.2]; decide⟩]
  rfl
theorem cCel.cp {a d : Nat} {c e : cS} {σ : mc_G} (hc : cCel a c σ) (he : cCel d e σ) (n : apC a d) : cCel a (c.1, e.2) (mc_row σ (a + 1) (va_cpy (σ (d + 1)) (σ (a + 1)) 0 0 14)) := by
  refine ⟨by rw [mc_rown _ _ (by omega)]; exact hc.1, hc.2.1, fun j hj => ?_⟩
  rw [mc_rowa]
  unfold va_cpy
  rw [if_pos ⟨by omega, by omega⟩]
  simpa using he.2.2 j hj
set_option maxRecDepth 100000 in
theorem sX0_becomeLike {a d : Nat} {c e : cS} {σ : mc_G} (hC : isC a) (hD : isC d) (hc : cCel a c σ) (he : cCel d e σ) (n : apC a d) : Wp miX0_becomeLike 0 [(0, .inr (some a)), (1, .inr (some d))] [] σ (fun rv σ' => rv = none ∧ cCel a e σ' ∧ offC a σ σ') := by
  iterate 2 refine Wp.go rfl ?_
  refine Wp.gC1 hD rfl ?_
  refine Wp.pC1 hC rfl ?_
  refine Wp.go rfl ?_
  refine Wp.gC0 hD rfl ?_
  iterate 2 refine Wp.go rfl ?_
  refine Wp.gC0 hC rfl ?_
  iterate 2 refine Wp.go rfl ?_
  refine Wp.cpC hC hD rfl rfl rfl rfl ?_
  refine Wp.ret rfl ?_
  have h1 := hc.h he.1 he.2.1
  have h2 : cCel d e (mc_up σ a 1 (σ d 1)) := he.off (offC.rf.h) n
  refine ⟨rfl, h1.cp h2 n, fun b hb1 hb2 => ?_⟩
  rw [mc_rown _ _ hb2, mc_upn _ _ _ hb1]
set_option maxRecDepth 100000 in
theorem sX0_becomeCaught {a d : Nat} {c e : cS} {σ : mc_G} (hC : isC a) (hD : isC d) (hc : cCel a c σ) (he : cCel d e σ) (n : apC a d) {z : Int32} {q : Nat} (hq : z = nI q) (hq3 : q < 300) : Wp miX0_becomeCaught 0 [(0, .inr (some a)), (1, .inr (some d)), (2, .inl z)] [] σ (fun rv σ' => rv = none ∧ cCel a (1, va_up e.2 8 q) σ' ∧ offC a σ σ') := by
  have h6 := he.2.1
  iterate 2 refine Wp.go rfl ?_
  refine Wp.call (if_pos ⟨hC.1, hC.2.1, Nat.le_of_ble_eq_true rfl, Nat.le_of_ble_eq_true rfl⟩) cqX0_becomeLike (sX0_becomeLike hC hD hc he n) (fun rv1 s1 hq1 => ?_)
  obtain ⟨rfl, hc1, ho1⟩ := hq1
  iterate 2 refine Wp.go rfl ?_
  refine Wp.call (if_pos ⟨hC.1, hC.2.1, Nat.le_of_ble_eq_true rfl, Nat.le_of_ble_eq_true rfl⟩) cqX0_drop (sX0_drop hC hc1 (p := 6) rfl (by omega)) (fun rv2 s2 hq2 => ?_)
  obtain ⟨rfl, hc2, ho2⟩ := hq2
  iterate 2 refine Wp.go rfl ?_
  refine Wp.call (if_pos ⟨hC.1, hC.2.1, Nat.le_of_ble_eq_true rfl, Nat.le_of_ble_eq_true rfl⟩) cqX0_push (sX0_push hC hc2 hq hq3) (fun rv3 s3 hq3 => ?_)
  obtain ⟨rfl, hc3, ho3⟩ := hq3
  refine Wp.ret rfl ?_
  refine ⟨rfl, ?_, (ho1.tr ho2).tr ho3⟩
  have h0 : (drA e 6).1 = 0 := by show e.1 - 6 = 0; omega
  have e1 : psA (drA e 6) q = (1, va_up e.2 8 q) := by unfold psA; rw [h0, if_pos (by omega)]; rfl
  rw [← e1]
  exact hc3
def asA (T : tT) (c e : cS) (i : Nat) : Bool := decide (c.1 = e.1) && (List.range i).all (fun j => gfA T (c.2 j) (kA e j))
theorem asA_s {T : tT} {c e : cS} {i : Nat} : asA T c e (i + 1) = (asA T c e i && gfA T (c.2 i) (kA e i)) := by
  unfold asA
  rw [List.range_succ, List.all_append]
  simp [Bool.and_assoc]
theorem asA_f {T : tT} {c e : cS} {i j : Nat} (h : asA T c e i = false) (hj : i ≤ j) : asA T c e j = false := by
  induction j with
  | zero => rw [show i = 0 by omega] at h; exact h
  | succ j ih =>
    by_cases e2 : i ≤ j
    · rw [asA_s, ih e2]; rfl
    · rw [show j + 1 = i by omega]; exact h
/-- do the places of one stand for those of another -/
def sfA (T : tT) (c e : cS) : Bool := asA T c e (8 + c.1)
set_option maxRecDepth 100000 in
theorem lX0_allStandFor {T : tT} {a d : Nat} {c e : cS} {σ : mc_G} (hT : cTyp T σ) (hO : tOk T) (hC : isC a) (hD : isC d) (hc : cCel a c σ) (he : cCel d e σ) : ∀ (n i : Nat) (x3 : Int32), x3 = nI i → ∀ (g : Bool) (x5 : Int32), x5 = bI g → i ≤ 8 + c.1 → g = asA T c e i → 14 - i < n → Wp miX0_allStandFor 20 [(4, .inl x3), (3, .inl x5), (0, .inr (some a)), (1, .inr (some d)), (2, .inr (some 1))] [] σ (fun rv σ' => rv = some (.inl (bI (sfA T c e))) ∧ σ' = σ) := by
  intro n
  induction n with
  | zero => intro i x3 hz3 g x5 hz5 hi14 hg hin; exfalso; have := hc.2.1; omega
  | succ n ih =>
    intro i x3 hz3 g x5 hz5 hi14 hg hin
    have hh6 := hc.2.1
    have he6 := he.2.1
    iterate 3 refine Wp.go rfl ?_
    refine Wp.geN (a := i) (b := 14) hz3 (rfl : _ = nI 14) (by first | omega | exact Nat.lt_trans (hc.2.2 i (by omega)).2 (by decide) | (unfold kA; split; exact Nat.lt_trans (he.2.2 i (by omega)).2 (by decide); decide)) (by first | omega | exact Nat.lt_trans (hc.2.2 i (by omega)).2 (by decide) | (unfold kA; split; exact Nat.lt_trans (he.2.2 i (by omega)).2 (by decide); decide)) (fun (h1 : ¬ i < 14) => ?_) (fun (h1 : i < 14) => ?_)
    · refine Wp.go rfl ?_
      refine Wp.ret (if_pos (Or.inr (bE_01 hz5))) ?_
      refine ⟨?_, rfl⟩
      refine rvB hz5 ?_
      rw [hg]
      unfold sfA
      first | (rw [show 8 + c.1 = i by omega]; done) | (rw [← hg, h3, asA_f (hg.symm.trans h3) (by omega)])
    · iterate 2 refine Wp.go rfl ?_
      refine Wp.call (if_pos ⟨(hC).1, (hC).2.1, Nat.le_of_ble_eq_true rfl, Nat.le_of_ble_eq_true rfl⟩) cqX0_holds (sX0_holds (σ := σ) (c := c) hC (hc) hz3 (by first | omega | exact Nat.lt_trans (hc.2.2 i (by omega)).2 (by decide) | (unfold kA; split; exact Nat.lt_trans (he.2.2 i (by omega)).2 (by decide); decide))) (fun rv1 s1 hq1 => ?_)
      obtain ⟨rfl, hq1⟩ := hq1
      replace hq1 := hq1.symm
      subst hq1
      refine Wp.go rfl ?_
      refine Wp.beqD (p := i < 8 + c.1) rfl (fun (h2 : ¬ (i < 8 + c.1)) => ?_) (fun (h2 : i < 8 + c.1) => ?_)
      · refine Wp.go rfl ?_
        refine Wp.ret (if_pos (Or.inr (bE_01 hz5))) ?_
        refine ⟨?_, rfl⟩
        refine rvB hz5 ?_
        rw [hg]
        unfold sfA
        first | (rw [show 8 + c.1 = i by omega]; done) | (rw [← hg, h3, asA_f (hg.symm.trans h3) (by omega)])
      · iterate 2 refine Wp.go rfl ?_
        refine Wp.beqE hz5 (fun (h3 : g = false) => ?_) (fun (h3 : g = true) => ?_)
        · refine Wp.go rfl ?_
          refine Wp.ret (if_pos (Or.inr (bE_01 hz5))) ?_
          refine ⟨?_, rfl⟩
          refine rvB hz5 ?_
          rw [hg]
          unfold sfA
          first | (rw [show 8 + c.1 = i by omega]; done) | (rw [← hg, h3, asA_f (hg.symm.trans h3) (by omega)])
        · iterate 2 refine Wp.go rfl ?_
          refine Wp.gC0 hC rfl ?_
          refine Wp.go rfl ?_
          refine Wp.ldC hC rfl (inE (n := 14) hz3 (by first | omega | exact Nat.lt_trans (hc.2.2 i (by omega)).2 (by decide) | (unfold kA; split; exact Nat.lt_trans (he.2.2 i (by omega)).2 (by decide); decide))) ?_
          iterate 2 refine Wp.go rfl ?_
          refine Wp.call (if_pos ⟨(hD).1, (hD).2.1, Nat.le_of_ble_eq_true rfl, Nat.le_of_ble_eq_true rfl⟩) cqX0_kindAt (sX0_kindAt (σ := σ) (c := e) hD (he) hz3 (by first | omega | exact Nat.lt_trans (hc.2.2 i (by omega)).2 (by decide) | (unfold kA; split; exact Nat.lt_trans (he.2.2 i (by omega)).2 (by decide); decide))) (fun rv2 s2 hq2 => ?_)
          obtain ⟨rfl, hq2⟩ := hq2
          replace hq2 := hq2.symm
          subst hq2
          refine Wp.call rfl cqX9_standsFor (sX9_standsFor (σ := σ) hT hO (rdE hz3 (by first | omega | exact Nat.lt_trans (hc.2.2 i (by omega)).2 (by decide) | (unfold kA; split; exact Nat.lt_trans (he.2.2 i (by omega)).2 (by decide); decide)) ((hc).2.2 i (by first | omega | exact Nat.lt_trans (hc.2.2 i (by omega)).2 (by decide) | (unfold kA; split; exact Nat.lt_trans (he.2.2 i (by omega)).2 (by decide); decide))).1) (by first | omega | exact Nat.lt_trans (hc.2.2 i (by omega)).2 (by decide) | (unfold kA; split; exact Nat.lt_trans (he.2.2 i (by omega)).2 (by decide); decide)) rfl (by first | omega | exact Nat.lt_trans (hc.2.2 i (by omega)).2 (by decide) | (unfold kA; split; exact Nat.lt_trans (he.2.2 i (by omega)).2 (by decide); decide))) (fun rv3 s3 hq3 => ?_)
          obtain ⟨rfl, hq3⟩ := hq3
          replace hq3 := hq3.symm
          subst hq3
          iterate 3 refine Wp.go rfl ?_
          exact ih (i + 1) _ (nE_add hz3 (rfl : _ = nI 1)) _ _ rfl (by omega) (by rw [asA_s, ← hg, h3]; rfl) (by omega)
set_option maxRecDepth 100000 in
theorem sX0_allStandFor {T : tT} {a d : Nat} {c e : cS} {σ : mc_G} (hT : cTyp T σ) (hO : tOk T) (hC : isC a) (hD : isC d) (hc : cCel a c σ) (he : cCel d e σ) : Wp miX0_allStandFor 0 [(0, .inr (some a)), (1, .inr (some d)), (2, .inr (some 1))] [] σ (fun rv σ' => rv = some (.inl (bI (sfA T c e))) ∧ σ' = σ) := by
  have hh6 := hc.2.1
  have he6 := he.2.1
  refine Wp.go rfl ?_
  refine Wp.gC1 hC rfl ?_
  refine Wp.go rfl ?_
  refine Wp.gC1 hD rfl ?_
  refine Wp.go rfl ?_
  refine Wp.neN (a := c.1) (b := e.1) (hc).1 (he).1 (by omega) (by omega) (fun (h1 : ¬ c.1 = e.1) => ?_) (fun (h1 : c.1 = e.1) => ?_)
  · iterate 4 refine Wp.go rfl ?_
    exact lX0_allStandFor hT hO hC hD hc he 15 0 _ rfl _ _ (rfl : _ = bI false) (by omega) (by unfold asA; simp [h1]) (by omega)
  · iterate 5 refine Wp.go rfl ?_
    exact lX0_allStandFor hT hO hC hD hc he 15 0 _ rfl _ _ (rfl : _ = bI true) (by omega) (by unfold asA; simp [h1]) (by omega)

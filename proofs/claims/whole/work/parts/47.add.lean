/-! a TYPE more -/
theorem ix (x : Int32) : x < 0 ∨ ∃ k, x = nI k ∧ k < 2 ^ 31 := by
  by_cases h : x < 0
  · exact Or.inl h
  · have h0 : 0 ≤ x.toInt := by
      rw [Int32.lt_iff_toInt_lt] at h
      simpa using h
    have e1 : (x.toNatClampNeg : Int) = x.toInt := by rw [← Int32.toNat_toInt, Int.toNat_of_nonneg h0]
    have hlt : x.toNatClampNeg < 2 ^ 31 := by
      have := x.toInt_lt
      omega
    refine Or.inr ⟨x.toNatClampNeg, ?_, hlt⟩
    apply Int32.toInt_inj.mp
    rw [nI_toInt hlt]
    exact e1.symm
theorem neF_sy (T : tT) : ∀ (n i j : Nat), neF T n i j = neF T n j i := by
  intro n
  induction n with
  | zero => intro i j; rfl
  | succ n ih =>
    intro i j
    rcases Nat.lt_trichotomy i j with h | h | h
    · have l : neF T (n + 1) i j = neF T n i (tp T j) := by rw [neF, if_neg (by omega), if_neg (by omega)]
      have r : neF T (n + 1) j i = neF T n (tp T j) i := by rw [neF, if_neg (by omega), if_pos h]
      rw [l, r, ih]
    · subst h; rfl
    · have l : neF T (n + 1) i j = neF T n (tp T i) j := by rw [neF, if_neg (by omega), if_pos h]
      have r : neF T (n + 1) j i = neF T n j (tp T i) := by rw [neF, if_neg (by omega), if_neg (by omega)]
      rw [l, r, ih]
theorem upj (σ : mc_G) (a i : Nat) (v : Int32) (j : Nat) : mc_up σ a i v a j = if j = i then v else σ a j := by rw [mc_upa]
theorem neF_fu {T : tT} (hO : tOk T) : ∀ (n i j : Nat), i < tc T → j < tc T → i + j < n → neF T n i j = neF T (n + 1) i j := by
  have h5 := hO.2.2.2.2.1
  intro n
  induction n with
  | zero => intro i j _ _ h; omega
  | succ n ih =>
    intro i j hi hj h
    rw [neF, neF]
    by_cases e : i = j
    · rw [if_pos e, if_pos e]
    · rw [if_neg e, if_neg e]
      by_cases e2 : j < i
      · have := h5 i (by omega) hi
        rw [if_pos e2, if_pos e2, ih _ _ (by omega) hj (by omega)]
      · have := h5 j (by omega) hj
        rw [if_neg e2, if_neg e2, ih _ _ hi (by omega) (by omega)]
def taA (T : tT) (p : Nat) (f : Bool) : tT := (tc T + 1, va_up (tp T) (tc T) p, va_up (tf T) (tc T) f)
theorem neF_ta {T : tT} (hO : tOk T) {p : Nat} {f : Bool} : ∀ (n i j : Nat), i < tc T → j < tc T → neF (taA T p f) n i j = neF T n i j := by
  have h5 := hO.2.2.2.2.1
  have he : ∀ i, i < tc T → tp (taA T p f) i = tp T i := fun i hi => by show va_up (tp T) (tc T) p i = _; unfold va_up; rw [if_neg (by omega)]
  intro n
  induction n with
  | zero => intro i j _ _; rfl
  | succ n ih =>
    intro i j hi hj
    rw [neF, neF]
    by_cases e : i = j
    · rw [if_pos e, if_pos e]
    · rw [if_neg e, if_neg e]
      by_cases e2 : j < i
      · have := h5 i (by omega) hi
        rw [if_pos e2, if_pos e2, he i hi, ih _ _ (by omega) hj]
      · have := h5 j (by omega) hj
        rw [if_neg e2, if_neg e2, he j hj, ih _ _ hi (by omega)]
theorem ta_o {T : tT} (hO : tOk T) {p : Nat} {f : Bool} {i j : Nat} (hi : i < tc T) (hj : j < tc T) : neA (taA T p f) i j = neA T i j := neF_ta hO 16 i j hi hj
theorem ta_d {T : tT} {p : Nat} {f : Bool} : neA (taA T p f) (tc T) (tc T) = tc T := by unfold neA; rw [neF, if_pos rfl]
theorem ta_p (T : tT) (p : Nat) (f : Bool) : tp (taA T p f) (tc T) = p := by show va_up (tp T) (tc T) p (tc T) = p; unfold va_up; rw [if_pos rfl]
theorem ta_l {T : tT} (hO : tOk T) {p : Nat} {f : Bool} {j : Nat} (hp : p < tc T) (hj : j < tc T) : neA (taA T p f) (tc T) j = neA T p j := by
  have h8 := hO.2.1
  unfold neA
  rw [neF, if_neg (by omega), if_pos hj, ta_p, neF_ta hO 15 p j hp hj, neF_fu hO 15 p j hp hj]
  rcases Nat.lt_or_ge (p + j) 15 with h | h
  · exact h
  · omega
theorem ta_r {T : tT} (hO : tOk T) {p : Nat} {f : Bool} {j : Nat} (hp : p < tc T) (hj : j < tc T) : neA (taA T p f) j (tc T) = neA T p j := by
  rw [← ta_l (f := f) hO hp hj]; exact neF_sy _ _ _ _
theorem tOk_ta {T : tT} (hO : tOk T) {p : Nat} {f : Bool} (hp : p < tc T) (hf : tf T p = false) (h0 : f = true → p = 0) (h8 : tc T < 8) : tOk (taA T p f) := by
  obtain ⟨a1, a2, a3, a4, a5, a6, a7⟩ := hO
  have e1 : ∀ i, i < tc T → tp (taA T p f) i = tp T i := fun i hi => by show va_up (tp T) (tc T) p i = _; unfold va_up; rw [if_neg (by omega)]
  have e2 : ∀ i, i < tc T → tf (taA T p f) i = tf T i := fun i hi => by show va_up (tf T) (tc T) f i = _; unfold va_up; rw [if_neg (by omega)]
  have e3 : tf (taA T p f) (tc T) = f := by show va_up (tf T) (tc T) f (tc T) = f; unfold va_up; rw [if_pos rfl]
  have ec : tc (taA T p f) = tc T + 1 := rfl
  have lt : ∀ t, t < tc T → tp T t < tc T := fun t ht => by
    by_cases e : t = 0
    · subst e; rw [a4]; omega
    · have := a5 t (by omega) ht; omega
  refine ⟨by omega, by omega, by rw [e2 0 (by omega)]; exact a3, by rw [e1 0 (by omega)]; exact a4, fun t h1 h2 => ?_, fun t h2 => ?_, fun t h2 h3 => ?_⟩
  · by_cases e : t = tc T
    · subst e; rw [ta_p]; exact hp
    · rw [e1 t (by omega)]; exact a5 t h1 (by omega)
  · by_cases e : t = tc T
    · subst e; rw [ta_p, e2 p hp]; exact hf
    · rw [e1 t (by omega), e2 _ (lt t (by omega))]; exact a6 t (by omega)
  · by_cases e : t = tc T
    · subst e; rw [ta_p]; rw [e3] at h3; exact h0 h3
    · rw [e1 t (by omega)]; rw [e2 t (by omega)] at h3; exact a7 t (by omega) h3
def tyG (T : tT) (p : Nat) (f : Bool) : Prop := p < tc T ∧ tf T p = false ∧ (f = true → p = 0)
def offY (σ σ' : mc_G) : Prop := ∀ b, (b < 1 ∨ 3 < b) → σ' b = σ b
set_option maxRecDepth 100000 in
theorem sX9_nearest' {σ : mc_G} {x y : Int32} {k j v : Nat} (hx : x = nI k) (hk : k < 8) (hy : y = nI j) (hj : j < 8) (hv : σ 2 (k * 8 + j) = nI v) : Wp miX9_nearest 0 [(0, .inr (some 1)), (1, .inl x), (2, .inl y)] [] σ (fun rv σ' => rv = some (.inl (nI v)) ∧ σ' = σ) := by
  iterate 8 refine Wp.go rfl ?_
  refine Wp.ltN (a := (k * 8) + j) (b := 0) (nE_add (nE_mul hx (rfl : _ = nI 8)) hy) (rfl : _ = nI 0) (by omega) (by omega) (fun (h1 : (k * 8) + j < 0) => ?_) (fun (h1 : ¬ (k * 8) + j < 0) => ?_)
  · refine Wp.go rfl ?_
    refine Wp.ret rfl ?_
    first | (exfalso; omega) | exact ⟨rvN (rfl : _ = nI 0) rfl, rfl⟩
  · iterate 5 refine Wp.go rfl ?_
    refine Wp.geN (a := (k * 8) + j) (b := 64) (nE_add (nE_mul hx (rfl : _ = nI 8)) hy) (rfl : _ = nI 64) (by omega) (by omega) (fun (h2 : ¬ (k * 8) + j < 64) => ?_) (fun (h2 : (k * 8) + j < 64) => ?_)
    · refine Wp.go rfl ?_
      refine Wp.ret rfl ?_
      first | (exfalso; omega) | exact ⟨rvN (rfl : _ = nI 0) rfl, rfl⟩
    · iterate 3 refine Wp.go rfl ?_
      refine Wp.go (if_pos ⟨rfl, rfl, (inE (n := 64) (nE_add (nE_mul hx (rfl : _ = nI 8)) hy) (by omega))⟩) ?_
      refine Wp.go rfl ?_
      refine Wp.ret rfl ?_
      first | (exfalso; omega) | exact ⟨rvN (rdE (nE_add (nE_mul hx (rfl : _ = nI 8)) hy) (by omega) (by rw [show ((k * 8) + j) = k * 8 + j from rfl]; exact hv)) rfl, rfl⟩
set_option maxRecDepth 100000 in
theorem sX9_share {σ : mc_G} {x y z : Int32} {k j v : Nat} (hx : x = nI k) (hk : k < 8) (hy : y = nI j) (hj : j < 8) (hv : z = nI v) : Wp miX9_share 0 [(0, .inr (some 1)), (1, .inl x), (2, .inl y), (3, .inl z)] [] σ (fun rv σ' => rv = none ∧ σ' = mc_up σ 2 (k * 8 + j) (nI v)) := by
  iterate 8 refine Wp.go rfl ?_
  refine Wp.ltN (a := (k * 8) + j) (b := 0) (nE_add (nE_mul hx (rfl : _ = nI 8)) hy) (rfl : _ = nI 0) (by omega) (by omega) (fun (h1 : (k * 8) + j < 0) => ?_) (fun (h1 : ¬ (k * 8) + j < 0) => ?_)
  · refine Wp.ret rfl ?_
    first | (exfalso; omega) | (refine ⟨rfl, ?_⟩; have hz := clE (nE_add (nE_mul hx (rfl : _ = nI 8)) hy) (show k * 8 + j < 2 ^ 31 by omega); rw [← hz, ← hv]; rfl)
  · iterate 5 refine Wp.go rfl ?_
    refine Wp.geN (a := (k * 8) + j) (b := 64) (nE_add (nE_mul hx (rfl : _ = nI 8)) hy) (rfl : _ = nI 64) (by omega) (by omega) (fun (h2 : ¬ (k * 8) + j < 64) => ?_) (fun (h2 : (k * 8) + j < 64) => ?_)
    · refine Wp.ret rfl ?_
      first | (exfalso; omega) | (refine ⟨rfl, ?_⟩; have hz := clE (nE_add (nE_mul hx (rfl : _ = nI 8)) hy) (show k * 8 + j < 2 ^ 31 by omega); rw [← hz, ← hv]; rfl)
    · iterate 4 refine Wp.go rfl ?_
      refine Wp.go (if_pos ⟨(show 2 < 187 by decide), rfl, (inE (n := 64) (nE_add (nE_mul hx (rfl : _ = nI 8)) hy) (by omega))⟩) ?_
      refine Wp.ret rfl ?_
      first | (exfalso; omega) | (refine ⟨rfl, ?_⟩; have hz := clE (nE_add (nE_mul hx (rfl : _ = nI 8)) hy) (show k * 8 + j < 2 ^ 31 by omega); rw [← hz, ← hv]; rfl)
/-- the table, with the new TYPE's row and column laid as far as i -/
def cTy2 (T : tT) (p : Nat) (f : Bool) (i : Nat) (σ : mc_G) : Prop := σ 1 2 = nI (tc T + 1) ∧ (∀ t, t < tc T + 1 → σ 3 t = bI (tf (taA T p f) t)) ∧ (∀ a b, a < tc T → b < tc T → σ 2 (a * 8 + b) = nI (neA T a b)) ∧ σ 2 (tc T * 8 + tc T) = nI (tc T) ∧ (∀ b, b < i → σ 2 (tc T * 8 + b) = nI (neA T p b) ∧ σ 2 (b * 8 + tc T) = nI (neA T p b))
theorem cTy2.s {T : tT} {p : Nat} {f : Bool} {i : Nat} {σ : mc_G} (h : cTy2 T p f i σ) (h8 : tc T < 8) (hi : i < tc T) : cTy2 T p f (i + 1) (mc_up (mc_up σ 2 (tc T * 8 + i) (nI (neA T p i))) 2 (i * 8 + tc T) (nI (neA T p i))) := by
  obtain ⟨h1, h2, h3, h4, h5⟩ := h
  refine ⟨by rw [mc_upn _ _ _ (by decide), mc_upn _ _ _ (by decide)]; exact h1, fun t ht => by rw [mc_upn _ _ _ (by decide), mc_upn _ _ _ (by decide)]; exact h2 t ht, fun a b ha hb => ?_, ?_, fun b hb => ?_⟩
  · rw [upj, if_neg (by omega), upj, if_neg (by omega)]; exact h3 a b ha hb
  · rw [upj, if_neg (by omega), upj, if_neg (by omega)]; exact h4
  · by_cases e : b = i
    · subst e
      constructor
      · rw [upj, if_neg (by omega), upj, if_pos rfl]
      · rw [upj, if_pos rfl]
    · have := h5 b (by omega)
      constructor
      · rw [upj, if_neg (by omega), upj, if_neg (by omega)]; exact this.1
      · rw [upj, if_neg (by omega), upj, if_neg (by omega)]; exact this.2
theorem cTy2.e {T : tT} {p : Nat} {f : Bool} {σ : mc_G} (hO : tOk T) (hp : p < tc T) (h : cTy2 T p f (tc T) σ) : cTyp (taA T p f) σ := by
  obtain ⟨h1, h2, h3, h4, h5⟩ := h
  refine ⟨h1, h2, fun i j hi hj => ?_⟩
  have hi' : i < tc T + 1 := hi
  have hj' : j < tc T + 1 := hj
  by_cases e1 : i = tc T
  · by_cases e2 : j = tc T
    · subst e1; rw [e2, ta_d]; exact h4
    · subst e1; rw [ta_l hO hp (by omega)]; exact (h5 j (by omega)).1
  · by_cases e2 : j = tc T
    · rw [e2, ta_r hO hp (by omega)]; exact (h5 i (by omega)).2
    · rw [ta_o hO (by omega) (by omega)]; exact h3 i j (by omega) (by omega)
set_option maxRecDepth 100000 in
theorem lX9_add {T : tT} (hO : tOk T) {p : Nat} {f : Bool} (hp : p < tc T) (h8 : tc T < 8) {σ0 : mc_G} {x y z3 : Int32} (hx : x = nI p) (h3 : z3 = nI (tc T)) : ∀ (n i : Nat) (x4 : Int32), x4 = nI i → i + n = tc T → ∀ (σ : mc_G), cTy2 T p f i σ → offY σ0 σ → Wp miX9_add 71 [(0, .inr (some 1)), (1, .inl x), (2, .inl y), (3, .inl z3), (4, .inl x4)] [] σ (fun rv σ' => rv = some (.inl (nI (tc T))) ∧ cTyp (taA T p f) σ' ∧ offY σ0 σ') := by
  intro n
  induction n with
  | zero =>
    intro i x4 hz4 hin σ hc ho
    iterate 3 refine Wp.go rfl ?_
    refine Wp.geN (a := i) (b := tc T) hz4 h3 (by omega) (by omega) (fun h1 => ?_) (fun h1 => ?_)
    · refine Wp.go rfl ?_
      refine Wp.ret rfl ?_
      rw [show i = tc T by omega] at hc
      exact ⟨by rw [h3], hc.e hO hp, ho⟩
    · exfalso; omega
  | succ n ih =>
    intro i x4 hz4 hin σ hc ho
    iterate 3 refine Wp.go rfl ?_
    refine Wp.geN (a := i) (b := tc T) hz4 h3 (by omega) (by omega) (fun h1 => ?_) (fun h1 => ?_)
    · exfalso; omega
    iterate 6 refine Wp.go rfl ?_
    refine Wp.call rfl cqX9_nearest (sX9_nearest' hx (by omega) hz4 (by omega) (hc.2.2.1 p i hp (by omega))) (fun rv1 s1 hq1 => ?_)
    obtain ⟨rfl, hq1⟩ := hq1
    replace hq1 := hq1.symm
    subst hq1
    refine Wp.call rfl cqX9_share (sX9_share h3 (by omega) hz4 (by omega) rfl) (fun rv2 s2 hq2 => ?_)
    obtain ⟨rfl, rfl⟩ := hq2
    iterate 6 refine Wp.go rfl ?_
    refine Wp.call rfl cqX9_nearest (sX9_nearest' (v := neA T p i) hx (by omega) hz4 (by omega) (by rw [upj, if_neg (by omega)]; exact hc.2.2.1 p i hp (by omega))) (fun rv3 s3 hq3 => ?_)
    obtain ⟨rfl, hq3⟩ := hq3
    replace hq3 := hq3.symm
    subst hq3
    refine Wp.call rfl cqX9_share (sX9_share hz4 (by omega) h3 (by omega) rfl) (fun rv4 s4 hq4 => ?_)
    obtain ⟨rfl, rfl⟩ := hq4
    iterate 2 refine Wp.go rfl ?_
    refine Wp.lo (lo := [(0, .inr (some 1)), (1, .inl _), (2, .inl _), (3, .inl _), (4, .inl _)]) ⟨rfl, rfl, rfl, rfl, rfl, trivial⟩ ?_
    exact ih (i + 1) _ (nE_add hz4 (rfl : _ = nI 1)) (by omega) _ (hc.s h8 (by omega)) (fun b hb => by rw [mc_upn _ _ _ (by omega), mc_upn _ _ _ (by omega)]; exact ho b hb)
set_option maxRecDepth 100000 in
theorem sX9_add_bad {T : tT} {σ : mc_G} (hT : cTyp T σ) (hO : tOk T) {x y : Int32} {p : Nat} {f : Bool} (hx : x = nI p) (hp : p < 2 ^ 31) (hy : y = bI f) (hg : ¬ tyG T p f) : Wp miX9_add 0 [(0, .inr (some 1)), (1, .inl x), (2, .inl y)] [] σ (fun rv σ' => rv = some (.inl (-2)) ∧ σ' = σ) := by
  iterate 2 refine Wp.go rfl ?_
  refine Wp.call rfl cqX9_has (sX9_has hT hO hx (by omega)) (fun rv1 s1 hq1 => ?_)
  obtain ⟨rfl, hq1⟩ := hq1
  replace hq1 := hq1.symm
  subst hq1
  refine Wp.go rfl ?_
  refine Wp.beqD (p := p < tc T) rfl (fun (h1 : ¬ (p < tc T)) => ?_) (fun (h1 : p < tc T) => ?_)
  · refine Wp.go rfl ?_
    refine Wp.ret rfl ?_
    exact ⟨rfl, rfl⟩
  · iterate 2 refine Wp.go rfl ?_
    refine Wp.call rfl cqX9_isFace (sX9_isFace hT hO hx (by omega)) (fun rv2 s2 hq2 => ?_)
    obtain ⟨rfl, hq2⟩ := hq2
    replace hq2 := hq2.symm
    subst hq2
    refine Wp.go rfl ?_
    refine Wp.bneE rfl (fun (h2 : (decide (p < tc T) && tf T p) = true) => ?_) (fun (h2 : (decide (p < tc T) && tf T p) = false) => ?_)
    · refine Wp.go rfl ?_
      refine Wp.ret rfl ?_
      exact ⟨rfl, rfl⟩
    · iterate 2 refine Wp.go rfl ?_
      refine Wp.beqE hy (fun (h3 : f = false) => ?_) (fun (h3 : f = true) => ?_)
      · exact absurd (show tyG T p f from ⟨by assumption, by simp_all, by intro q; simp_all⟩) hg
      · iterate 2 refine Wp.go rfl ?_
        refine Wp.eqN (a := p) (b := 0) hx (rfl : _ = nI 0) (by omega) (by omega) (fun (h4 : p = 0) => ?_) (fun (h4 : ¬ p = 0) => ?_)
        · exact absurd (show tyG T p f from ⟨by assumption, by simp_all, by intro q; simp_all⟩) hg
        · refine Wp.go rfl ?_
          refine Wp.ret rfl ?_
          exact ⟨rfl, rfl⟩
set_option maxRecDepth 100000 in
theorem sX9_add_neg {T : tT} {σ : mc_G} (hT : cTyp T σ) (hO : tOk T) {x y : Int32} (hx : x < 0) : Wp miX9_add 0 [(0, .inr (some 1)), (1, .inl x), (2, .inl y)] [] σ (fun rv σ' => rv = some (.inl (-2)) ∧ σ' = σ) := by
  iterate 2 refine Wp.go rfl ?_
  refine Wp.call rfl cqX9_has (sX9_has_n hT hO hx) (fun rv1 s1 hq1 => ?_)
  obtain ⟨rfl, hq1⟩ := hq1
  replace hq1 := hq1.symm
  subst hq1
  refine Wp.go rfl ?_
  refine Wp.beqE (b := false) rfl (fun _ => ?_) (fun q => by cases q)
  refine Wp.go rfl ?_
  refine Wp.ret rfl ?_
  exact ⟨rfl, rfl⟩
set_option maxRecDepth 100000 in
theorem sX9_add_full {T : tT} {σ : mc_G} (hT : cTyp T σ) (hO : tOk T) {x y : Int32} {p : Nat} {f : Bool} (hx : x = nI p) (hp : p < 2 ^ 31) (hy : y = bI f) (hg : tyG T p f) (h8 : tc T = 8) : Wp miX9_add 0 [(0, .inr (some 1)), (1, .inl x), (2, .inl y)] [] σ (fun rv σ' => rv = some (.inl (-3)) ∧ σ' = σ) := by
  iterate 2 refine Wp.go rfl ?_
  refine Wp.call rfl cqX9_has (sX9_has hT hO hx (by omega)) (fun rv1 s1 hq1 => ?_)
  obtain ⟨rfl, hq1⟩ := hq1
  replace hq1 := hq1.symm
  subst hq1
  refine Wp.go rfl ?_
  refine Wp.beqD (p := p < tc T) rfl (fun (h1 : ¬ (p < tc T)) => ?_) (fun (h1 : p < tc T) => ?_)
  · exfalso; have hg1 := hg.1; have hg2 := hg.2.1; have hg3 := hg.2.2; first | omega | simp_all
  · iterate 2 refine Wp.go rfl ?_
    refine Wp.call rfl cqX9_isFace (sX9_isFace hT hO hx (by omega)) (fun rv2 s2 hq2 => ?_)
    obtain ⟨rfl, hq2⟩ := hq2
    replace hq2 := hq2.symm
    subst hq2
    refine Wp.go rfl ?_
    refine Wp.bneE rfl (fun (h2 : (decide (p < tc T) && tf T p) = true) => ?_) (fun (h2 : (decide (p < tc T) && tf T p) = false) => ?_)
    · exfalso; have hg1 := hg.1; have hg2 := hg.2.1; have hg3 := hg.2.2; first | omega | simp_all
    · iterate 2 refine Wp.go rfl ?_
      refine Wp.beqE hy (fun (h3 : f = false) => ?_) (fun (h3 : f = true) => ?_)
      · iterate 4 refine Wp.go rfl ?_
        refine Wp.ltN (a := tc T) (b := 8) hT.1 (rfl : _ = nI 8) (by omega) (by omega) (fun (h4 : tc T < 8) => ?_) (fun (h4 : ¬ tc T < 8) => ?_)
        · exact absurd h8 (by omega)
        · refine Wp.go rfl ?_
          refine Wp.ret rfl ?_
          exact ⟨rfl, rfl⟩
      · iterate 2 refine Wp.go rfl ?_
        refine Wp.eqN (a := p) (b := 0) hx (rfl : _ = nI 0) (by omega) (by omega) (fun (h5 : p = 0) => ?_) (fun (h5 : ¬ p = 0) => ?_)
        · iterate 4 refine Wp.go rfl ?_
          refine Wp.ltN (a := tc T) (b := 8) hT.1 (rfl : _ = nI 8) (by omega) (by omega) (fun (h6 : tc T < 8) => ?_) (fun (h6 : ¬ tc T < 8) => ?_)
          · exact absurd h8 (by omega)
          · refine Wp.go rfl ?_
            refine Wp.ret rfl ?_
            exact ⟨rfl, rfl⟩
        · exfalso; have hg1 := hg.1; have hg2 := hg.2.1; have hg3 := hg.2.2; first | omega | simp_all
set_option maxRecDepth 100000 in
theorem sX9_add {T : tT} {σ : mc_G} (hT : cTyp T σ) (hO : tOk T) {x y : Int32} {p : Nat} {f : Bool} (hx : x = nI p) (hp : p < 2 ^ 31) (hy : y = bI f) (hg : tyG T p f) (h8 : tc T < 8) : Wp miX9_add 0 [(0, .inr (some 1)), (1, .inl x), (2, .inl y)] [] σ (fun rv σ' => rv = some (.inl (nI (tc T))) ∧ cTyp (taA T p f) σ' ∧ offY σ σ') := by
  have k2 : Wp miX9_add 39 [(0, .inr (some 1)), (1, .inl x), (2, .inl y)] [] σ (fun rv σ' => rv = some (.inl (nI (tc T))) ∧ cTyp (taA T p f) σ' ∧ offY σ σ') := by
    iterate 7 refine Wp.go rfl ?_
    refine Wp.go (if_pos ⟨(show 3 < 187 by decide), rfl, inE (n := 8) hT.1 h8, bE_01 hy⟩) ?_
    iterate 10 refine Wp.go rfl ?_
    refine Wp.call rfl cqX9_share (sX9_share (v := tc T) hT.1 h8 hT.1 h8 hT.1) (fun rv2 s2 hq2 => ?_)
    obtain ⟨rfl, rfl⟩ := hq2
    iterate 2 refine Wp.go rfl ?_
    refine Wp.lo (lo := [(0, .inr (some 1)), (1, .inl _), (2, .inl _), (3, .inl _), (4, .inl _)]) ⟨rfl, rfl, rfl, rfl, rfl, trivial⟩ ?_
    refine lX9_add hO hg.1 h8 hx hT.1 (tc T) 0 _ (rfl : _ = nI 0) (by omega) (mc_up (mc_up (mc_up σ 3 (σ 1 2).toNatClampNeg y) 1 2 (mc_up σ 3 (σ 1 2).toNatClampNeg y 1 2 + 1)) 2 (tc T * 8 + tc T) (nI (tc T))) ⟨?_, fun t ht => ?_, fun a b ha hb => ?_, ?_, fun b hb => by omega⟩ (fun b hb => by rw [mc_upn _ _ _ (by omega), mc_upn _ _ _ (by omega), mc_upn _ _ _ (by omega)])
    · rw [mc_upn _ _ _ (by decide), upj, if_pos rfl, mc_upn _ _ _ (by decide)]
      exact nE_add hT.1 (rfl : _ = nI 1)
    · rw [mc_upn _ _ _ (by decide), mc_upn _ _ _ (by decide), upj, clE hT.1 (by omega)]
      show _ = bI (va_up (tf T) (tc T) f t)
      unfold va_up
      by_cases e : t = tc T
      · rw [if_pos e, if_pos e]; exact hy
      · rw [if_neg e, if_neg e]; exact hT.2.1 t (by omega)
    · rw [upj, if_neg (by omega), mc_upn _ _ _ (by decide), mc_upn _ _ _ (by decide)]
      exact hT.2.2 a b ha hb
    · rw [upj, if_pos rfl]
  iterate 2 refine Wp.go rfl ?_
  refine Wp.call rfl cqX9_has (sX9_has hT hO hx (by omega)) (fun rv1 s1 hq1 => ?_)
  obtain ⟨rfl, hq1⟩ := hq1
  replace hq1 := hq1.symm
  subst hq1
  refine Wp.go rfl ?_
  refine Wp.beqD (p := p < tc T) rfl (fun (h1 : ¬ (p < tc T)) => ?_) (fun (h1 : p < tc T) => ?_)
  · exfalso; have hg1 := hg.1; have hg2 := hg.2.1; have hg3 := hg.2.2; first | omega | simp_all
  · iterate 2 refine Wp.go rfl ?_
    refine Wp.call rfl cqX9_isFace (sX9_isFace hT hO hx (by omega)) (fun rv2 s2 hq2 => ?_)
    obtain ⟨rfl, hq2⟩ := hq2
    replace hq2 := hq2.symm
    subst hq2
    refine Wp.go rfl ?_
    refine Wp.bneE rfl (fun (h2 : (decide (p < tc T) && tf T p) = true) => ?_) (fun (h2 : (decide (p < tc T) && tf T p) = false) => ?_)
    · exfalso; have hg1 := hg.1; have hg2 := hg.2.1; have hg3 := hg.2.2; first | omega | simp_all
    · iterate 2 refine Wp.go rfl ?_
      refine Wp.beqE hy (fun (h3 : f = false) => ?_) (fun (h3 : f = true) => ?_)
      · iterate 4 refine Wp.go rfl ?_
        refine Wp.ltN (a := tc T) (b := 8) hT.1 (rfl : _ = nI 8) (by omega) (by omega) (fun (h4 : tc T < 8) => ?_) (fun (h4 : ¬ tc T < 8) => ?_)
        · exact k2
        · exfalso; omega
      · iterate 2 refine Wp.go rfl ?_
        refine Wp.eqN (a := p) (b := 0) hx (rfl : _ = nI 0) (by omega) (by omega) (fun (h5 : p = 0) => ?_) (fun (h5 : ¬ p = 0) => ?_)
        · iterate 4 refine Wp.go rfl ?_
          refine Wp.ltN (a := tc T) (b := 8) hT.1 (rfl : _ = nI 8) (by omega) (by omega) (fun (h6 : tc T < 8) => ?_) (fun (h6 : ¬ tc T < 8) => ?_)
          · exact k2
          · exfalso; omega
        · exfalso; have hg1 := hg.1; have hg2 := hg.2.1; have hg3 := hg.2.2; first | omega | simp_all
def paO (P : pT) (op : Nat) (a : Int32) : pT := (pn P + 1, va_up (po P) (pn P) op, va_up (pa P) (pn P) a, qn P, qf P, qt P, qa P, qk P)
def paH (P : pT) (f t a k : Nat) : pT := (pn P, po P, pa P, qn P + 1, va_up (qf P) (qn P) f, va_up (qt P) (qn P) t, va_up (qa P) (qn P) a, va_up (qk P) (qn P) k)
def offP (σ σ' : mc_G) : Prop := ∀ b, (b < 4 ∨ 10 < b) → σ' b = σ b
set_option maxRecDepth 100000 in
theorem sX1_add_full {P : pT} {σ : mc_G} (hP : cCode P σ) (hO1 : pn P ≤ 30 ∧ qn P ≤ 4) {x y : Int32} (h : pn P = 30) : Wp miX1_add 0 [(0, .inr (some 4)), (1, .inl x), (2, .inl y)] [] σ (fun rv σ' => rv = some (.inl (-3)) ∧ σ' = σ) := by
  iterate 4 refine Wp.go rfl ?_
  refine Wp.ltN (a := pn P) (b := 30) hP.1 rfl (by omega) (by omega) (fun q => by omega) (fun _ => ?_)
  refine Wp.go rfl ?_
  refine Wp.ret rfl ?_
  exact ⟨rfl, rfl⟩
set_option maxRecDepth 100000 in
theorem sX1_add {P : pT} {σ : mc_G} (hP : cCode P σ) (hO1 : pn P ≤ 30 ∧ qn P ≤ 4) {x y : Int32} {op : Nat} (hx : x = nI op) (h : pn P < 30) : Wp miX1_add 0 [(0, .inr (some 4)), (1, .inl x), (2, .inl y)] [] σ (fun rv σ' => rv = some (.inl (nI (pn P))) ∧ cCode (paO P op y) σ' ∧ offP σ σ') := by
  have e1 := clE hP.1 (show pn P < 2 ^ 31 by omega)
  iterate 4 refine Wp.go rfl ?_
  refine Wp.ltN (a := pn P) (b := 30) hP.1 rfl (by omega) (by omega) (fun _ => ?_) (fun q => absurd h q)
  iterate 5 refine Wp.go rfl ?_
  refine Wp.go (if_pos ⟨(show 5 < 187 by decide), rfl, inE (n := 30) hP.1 h⟩) ?_
  iterate 5 refine Wp.go rfl ?_
  refine Wp.go (if_pos ⟨(show 6 < 187 by decide), rfl, inE (n := 30) hP.1 h⟩) ?_
  iterate 10 refine Wp.go rfl ?_
  refine Wp.ret rfl ?_
  have q4 : (mc_up (mc_up σ 5 (σ 4 2).toNatClampNeg x) 6 (σ 4 2).toNatClampNeg y) 4 2 + 1 = nI (pn P + 1) := by
    rw [mc_upn _ _ _ (by decide), mc_upn _ _ _ (by decide)]
    exact nE_add hP.1 (rfl : _ = nI 1)
  show _ ∧ cCode (paO P op y) (mc_up (mc_up (mc_up σ 5 (σ 4 2).toNatClampNeg x) 6 (σ 4 2).toNatClampNeg y) 4 2 ((mc_up (mc_up σ 5 (σ 4 2).toNatClampNeg x) 6 (σ 4 2).toNatClampNeg y) 4 2 + 1)) ∧ offP σ (mc_up (mc_up (mc_up σ 5 (σ 4 2).toNatClampNeg x) 6 (σ 4 2).toNatClampNeg y) 4 2 ((mc_up (mc_up σ 5 (σ 4 2).toNatClampNeg x) 6 (σ 4 2).toNatClampNeg y) 4 2 + 1))
  rw [q4, e1]
  refine ⟨?_, ?_, fun b hb => by rw [mc_upn _ _ _ (by omega), mc_upn _ _ _ (by omega), mc_upn _ _ _ (by omega)]⟩
  · exact rvN (nE_sub (a := pn P + 1) (b := 1) q4 (rfl : _ = nI 1) (by omega)) (by omega)
  · refine ⟨?_, ?_, fun k hk => ?_, fun j hj => ?_⟩
    · rw [upj, if_pos rfl]; rfl
    · rw [upj, if_neg (by decide), mc_upn _ _ _ (by decide), mc_upn _ _ _ (by decide)]
      exact hP.2.1
    · have hk' : k < pn P + 1 := hk
      constructor
      · rw [mc_upn _ _ _ (by decide), mc_upn _ _ _ (by decide), upj]
        show _ = nI (va_up (po P) (pn P) op k)
        unfold va_up
        by_cases e : k = pn P
        · rw [if_pos e, if_pos e]; exact hx
        · rw [if_neg e, if_neg e]; exact (hP.2.2.1 k (by omega)).1
      · rw [mc_upn _ _ _ (by decide), upj]
        show _ = va_up (pa P) (pn P) y k
        unfold va_up
        by_cases e : k = pn P
        · rw [if_pos e, if_pos e]
        · rw [if_neg e, if_neg e, mc_upn _ _ _ (by decide)]; exact (hP.2.2.1 k (by omega)).2
    · have hz := hP.2.2.2 j hj
      refine ⟨?_, ?_, ?_, ?_⟩
      · rw [mc_upn _ _ _ (by decide), mc_upn _ _ _ (by decide), mc_upn _ _ _ (by decide)]; exact hz.1
      · rw [mc_upn _ _ _ (by decide), mc_upn _ _ _ (by decide), mc_upn _ _ _ (by decide)]; exact hz.2.1
      · rw [mc_upn _ _ _ (by decide), mc_upn _ _ _ (by decide), mc_upn _ _ _ (by decide)]; exact hz.2.2.1
      · rw [mc_upn _ _ _ (by decide), mc_upn _ _ _ (by decide), mc_upn _ _ _ (by decide)]; exact hz.2.2.2
set_option maxRecDepth 100000 in
theorem sX1_addHandler_full {P : pT} {σ : mc_G} (hP : cCode P σ) (hO1 : pn P ≤ 30 ∧ qn P ≤ 4) {x y z u : Int32} (h : qn P = 4) : Wp miX1_addHandler 0 [(0, .inr (some 4)), (1, .inl x), (2, .inl y), (3, .inl z), (4, .inl u)] [] σ (fun rv σ' => rv = some (.inl (-3)) ∧ σ' = σ) := by
  iterate 4 refine Wp.go rfl ?_
  refine Wp.ltN (a := qn P) (b := 4) hP.2.1 rfl (by omega) (by omega) (fun q => by omega) (fun _ => ?_)
  refine Wp.go rfl ?_
  refine Wp.ret rfl ?_
  exact ⟨rfl, rfl⟩
set_option maxRecDepth 100000 in
theorem sX1_addHandler {P : pT} {σ : mc_G} (hP : cCode P σ) (hO1 : pn P ≤ 30 ∧ qn P ≤ 4) {x y z u : Int32} {f t a k : Nat} (hx : x = nI f) (hy : y = nI t) (hz : z = nI a) (hu : u = nI k) (h : qn P < 4) : Wp miX1_addHandler 0 [(0, .inr (some 4)), (1, .inl x), (2, .inl y), (3, .inl z), (4, .inl u)] [] σ (fun rv σ' => rv = some (.inl (nI (qn P))) ∧ cCode (paH P f t a k) σ' ∧ offP σ σ') := by
  have e1 := clE hP.2.1 (show qn P < 2 ^ 31 by omega)
  iterate 4 refine Wp.go rfl ?_
  refine Wp.ltN (a := qn P) (b := 4) hP.2.1 rfl (by omega) (by omega) (fun _ => ?_) (fun q => absurd h q)
  iterate 5 refine Wp.go rfl ?_
  refine Wp.go (if_pos ⟨(show 7 < 187 by decide), rfl, inE (n := 4) hP.2.1 h⟩) ?_
  iterate 5 refine Wp.go rfl ?_
  refine Wp.go (if_pos ⟨(show 8 < 187 by decide), rfl, inE (n := 4) hP.2.1 h⟩) ?_
  iterate 5 refine Wp.go rfl ?_
  refine Wp.go (if_pos ⟨(show 9 < 187 by decide), rfl, inE (n := 4) hP.2.1 h⟩) ?_
  iterate 5 refine Wp.go rfl ?_
  refine Wp.go (if_pos ⟨(show 10 < 187 by decide), rfl, inE (n := 4) hP.2.1 h⟩) ?_
  iterate 10 refine Wp.go rfl ?_
  refine Wp.ret rfl ?_
  have q4 : (mc_up (mc_up (mc_up (mc_up σ 7 (σ 4 7).toNatClampNeg x) 8 (σ 4 7).toNatClampNeg y) 9 (σ 4 7).toNatClampNeg z) 10 (σ 4 7).toNatClampNeg u) 4 7 + 1 = nI (qn P + 1) := by
    rw [mc_upn _ _ _ (by decide), mc_upn _ _ _ (by decide), mc_upn _ _ _ (by decide), mc_upn _ _ _ (by decide)]
    exact nE_add hP.2.1 (rfl : _ = nI 1)
  show _ ∧ cCode (paH P f t a k) (mc_up (mc_up (mc_up (mc_up (mc_up σ 7 (σ 4 7).toNatClampNeg x) 8 (σ 4 7).toNatClampNeg y) 9 (σ 4 7).toNatClampNeg z) 10 (σ 4 7).toNatClampNeg u) 4 7 ((mc_up (mc_up (mc_up (mc_up σ 7 (σ 4 7).toNatClampNeg x) 8 (σ 4 7).toNatClampNeg y) 9 (σ 4 7).toNatClampNeg z) 10 (σ 4 7).toNatClampNeg u) 4 7 + 1)) ∧ offP σ (mc_up (mc_up (mc_up (mc_up (mc_up σ 7 (σ 4 7).toNatClampNeg x) 8 (σ 4 7).toNatClampNeg y) 9 (σ 4 7).toNatClampNeg z) 10 (σ 4 7).toNatClampNeg u) 4 7 ((mc_up (mc_up (mc_up (mc_up σ 7 (σ 4 7).toNatClampNeg x) 8 (σ 4 7).toNatClampNeg y) 9 (σ 4 7).toNatClampNeg z) 10 (σ 4 7).toNatClampNeg u) 4 7 + 1))
  rw [q4, e1]
  refine ⟨?_, ?_, fun b hb => by rw [mc_upn _ _ _ (by omega), mc_upn _ _ _ (by omega), mc_upn _ _ _ (by omega), mc_upn _ _ _ (by omega), mc_upn _ _ _ (by omega)]⟩
  · exact rvN (nE_sub (a := qn P + 1) (b := 1) q4 (rfl : _ = nI 1) (by omega)) (by omega)
  · refine ⟨?_, ?_, fun k hk => ?_, fun j hj => ?_⟩
    · rw [upj, if_neg (by decide), mc_upn _ _ _ (by decide), mc_upn _ _ _ (by decide), mc_upn _ _ _ (by decide), mc_upn _ _ _ (by decide)]
      exact hP.1
    · rw [upj, if_pos rfl]; rfl
    · have hz := hP.2.2.1 k hk
      constructor
      · rw [mc_upn _ _ _ (by decide), mc_upn _ _ _ (by decide), mc_upn _ _ _ (by decide), mc_upn _ _ _ (by decide), mc_upn _ _ _ (by decide)]; exact hz.1
      · rw [mc_upn _ _ _ (by decide), mc_upn _ _ _ (by decide), mc_upn _ _ _ (by decide), mc_upn _ _ _ (by decide), mc_upn _ _ _ (by decide)]; exact hz.2
    · have hj' : j < qn P + 1 := hj
      refine ⟨?_, ?_, ?_, ?_⟩
      · rw [mc_upn _ _ _ (by decide), mc_upn _ _ _ (by decide), mc_upn _ _ _ (by decide), mc_upn _ _ _ (by decide), upj]
        show _ = nI (va_up (qf P) (qn P) f j)
        unfold va_up
        by_cases e : j = qn P
        · rw [if_pos e, if_pos e]; exact hx
        · rw [if_neg e, if_neg e]; exact (hP.2.2.2 j (by omega)).1
      · rw [mc_upn _ _ _ (by decide), mc_upn _ _ _ (by decide), mc_upn _ _ _ (by decide), upj]
        show _ = nI (va_up (qt P) (qn P) t j)
        unfold va_up
        by_cases e : j = qn P
        · rw [if_pos e, if_pos e]; exact hy
        · rw [if_neg e, if_neg e]; rw [mc_upn _ _ _ (by decide)]; exact (hP.2.2.2 j (by omega)).2.1
      · rw [mc_upn _ _ _ (by decide), mc_upn _ _ _ (by decide), upj]
        show _ = nI (va_up (qa P) (qn P) a j)
        unfold va_up
        by_cases e : j = qn P
        · rw [if_pos e, if_pos e]; exact hz
        · rw [if_neg e, if_neg e]; rw [mc_upn _ _ _ (by decide), mc_upn _ _ _ (by decide)]; exact (hP.2.2.2 j (by omega)).2.2.1
      · rw [mc_upn _ _ _ (by decide), upj]
        show _ = nI (va_up (qk P) (qn P) k j)
        unfold va_up
        by_cases e : j = qn P
        · rw [if_pos e, if_pos e]; exact hu
        · rw [if_neg e, if_neg e]; rw [mc_upn _ _ _ (by decide), mc_upn _ _ _ (by decide), mc_upn _ _ _ (by decide)]; exact (hP.2.2.2 j (by omega)).2.2.2

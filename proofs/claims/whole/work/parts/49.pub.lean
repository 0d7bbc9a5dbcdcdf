theorem neg_gt {x : Int32} (h : x < 0) {n : Nat} (hn : n < 2 ^ 31) : ¬ nI n < x := by
  intro q
  have h1 := Int32.lt_iff_toInt_lt.mp h
  have h2 := Int32.lt_iff_toInt_lt.mp q
  rw [nI_toInt hn] at h2
  have e0 : (0 : Int32).toInt = 0 := rfl
  omega
def kN (K : kS) : kS := (K.1, K.2.1, K.2.2.1, K.2.2.2.1, K.2.2.2.2.1, K.2.2.2.2.2.1, false, K.2.2.2.2.2.2.2)
def kT (K : kS) (T : tT) : kS := (T, K.2)
def kP (K : kS) (P : pT) : kS := (K.1, P, K.2.2)
def kB (K : kS) (c : cS) : kS := (K.1, K.2.1, c, K.2.2.2)
def tyB (T : tT) (p : Nat) (f : Bool) : Bool := decide (p < tc T) && (!tf T p && (!f || decide (p = 0)))
theorem tyB_t {T : tT} {p : Nat} {f : Bool} : tyB T p f = true ↔ tyG T p f := by
  unfold tyB tyG
  cases f <;> simp
def inU (n : Nat) : Option Nat → Bool
  | some k => decide (k < n)
  | none => false
def tyR (K : kS) (f : Bool) : Option Nat → Int32 × kS
  | some p => if tyB K.1 p f = true then (if tc K.1 < 8 then (nI (tc K.1), kN (kT K (taA K.1 p f))) else (-3, K)) else (-2, K)
  | none => (-2, K)
def lcR (K : kS) : Option Nat → Option Nat → Int32 × kS
  | some p, some q => if p < 7 ∧ q = 2 then (1, kN (kB K (slA K.2.2.1 p))) else if p < 8 ∧ plK K.1 q = true then (1, kN (kB K (soA K.2.2.1 p q))) else (-2, K)
  | _, _ => (-2, K)
def nfA (T : tT) (o : Nat) (a : Option Nat) : Bool :=
  if o = 3 ∨ o = 5 then inU 8 a else if o = 4 ∨ o = 6 then inU 7 a else if o = 12 then (match a with | some k => decide (k < tc T) && !tf T k | none => false) else if o = 14 ∨ o = 15 then inU (tc T) a else if o = 16 ∨ o = 17 ∨ o = 18 then inU 30 a else decide (o ≤ 20)
def opR (K : kS) (y : Int32) : Option Nat → Option Nat → Int32 × kS
  | some o, a => if nfA K.1 o a = true then (if pn K.2.1 < 30 then (nI (pn K.2.1), kN (kP K (paO K.2.1 o y))) else (-3, K)) else (-2, K)
  | none, _ => (-2, K)
def hdR (K : kS) : Option Nat → Option Nat → Option Nat → Option Nat → Int32 × kS
  | some f, some t, some a, some k => if (f < t ∧ t ≤ 30) ∧ a < 30 ∧ k < tc K.1 then (if qn K.2.1 < 4 then (nI (qn K.2.1), kN (kP K (paH K.2.1 f t a k))) else (-3, K)) else (-2, K)
  | _, _, _, _ => (-2, K)
def jnR (K : kS) : Option Nat → Option Nat → Int32
  | some a, some b => if isK K.1 a = true ∧ isK K.1 b = true then nI (jnA K.1 a b) else -2
  | _, _ => -2
def goR (K : kS) : Option Nat → Option Nat → Int32
  | some a, some b => if isK K.1 a = true ∧ isK K.1 b = true then bI (gfA K.1 a b) else -2
  | _, _ => -2
def tdR (K : kS) : Option Nat → Int32
  | some w => if w = 0 then nI (tc K.1) else if w = 1 then nI (pn K.2.1) else if w = 2 then nI (qn K.2.1) else if w = 3 then (if K.2.2.2.2.2.2.1 = true then nI K.2.2.2.2.1.2.2.2.2 else 0) else if w = 4 then (if K.2.2.2.2.2.2.1 = true then nI (foR (crS (pn K.2.1) K.2.2.2.1) (pn K.2.1) 0 0) else 0) else -2
  | none => -2
def frR (K : kS) : Option Nat → Int32
  | some k => if K.2.2.2.2.2.2.1 = true then iuA K.2.2.2.2.1 k else -1
  | none => -1
def pkR (K : kS) : Int32 := if K.2.2.2.2.2.2.1 = true then nI K.2.2.2.2.2.1.1.1 else -1
def stR (K : kS) : Option Nat → Option Nat → Int32
  | a, some p => if p < 14 then (match a with | some k => if K.2.2.2.2.2.2.1 = true ∧ (k < pn K.2.1 ∧ K.2.2.2.1.2.1 k = true) ∧ p < 8 + (K.2.2.2.1.1 k).1 then nI ((K.2.2.2.1.1 k).2 p) else -1 | none => -1) else -2
  | _, none => -2
def kF (K : kS) (F : fS) : kS := (K.1, K.2.1, K.2.2.1, K.2.2.2.1, F, K.2.2.2.2.2)
def plR (K : kS) : Option Nat → Option Nat → Option Nat → Int32 × kS
  | some k, some p, some q => if K.2.2.2.2.2.2.1 = true ∧ k < K.2.2.2.2.1.2.2.2.2 ∧ plK K.1 q = true ∧ p < 8 + (K.2.2.2.2.1.2.2.2.1 k).1 ∧ ¬ ((K.2.2.2.2.1.2.2.2.1 k).2 p = 2 ∨ (K.2.2.2.2.1.2.2.2.1 k).2 p = 3) then (nI ((K.2.2.2.2.1.2.2.2.1 k).2 p), kF K (K.2.2.2.2.1.1, K.2.2.2.2.1.2.1, K.2.2.2.2.1.2.2.1, va_up K.2.2.2.2.1.2.2.2.1 k (ptA (K.2.2.2.2.1.2.2.2.1 k) p q), K.2.2.2.2.1.2.2.2.2)) else (-2, K)
  | _, _, _ => (-2, K)
theorem tyB_f {T : tT} {p : Nat} {f : Bool} (h : tyB T p f = false) : ¬ tyG T p f := fun q => by rw [tyB_t.mpr q] at h; cases h
set_option maxRecDepth 100000 in
theorem sX11_joined {K : kS} {σ : mc_G} (hK : cCls K σ) (hk : kOk K) {x y : Int32} {u v : Option Nat} (hu : oV x u) (hv : oV y v) : Wp miX11_joined 0 [(0, .inr (some 0)), (1, .inl x), (2, .inl y)] [] σ (fun rv σ' => rv = some (.inl (jnR K u v)) ∧ cCls K σ' ∧ ofR 0 166 σ σ') := by
  rcases u with _ | p
  · have hx : x < 0 := hu
    rcases v with _ | q
    · have hy : y < 0 := hv
      iterate 3 refine Wp.go rfl ?_
      refine Wp.call rfl cqX9_isKind (sX9_isKind_n hK.1 hk.1 hx) (fun rv1 s1 hq1 => ?_)
      obtain ⟨rfl, hq1⟩ := hq1
      replace hq1 := hq1.symm
      subst hq1
      refine Wp.go rfl ?_
      refine Wp.beqE (b := false) rfl (fun _ => ?_) (fun q => by cases q)
      refine Wp.go rfl ?_
      refine Wp.ret rfl ?_
      exact ⟨rfl, hK, ofR.rf⟩
    · obtain ⟨hy, hlq⟩ := hv
      iterate 3 refine Wp.go rfl ?_
      refine Wp.call rfl cqX9_isKind (sX9_isKind_n hK.1 hk.1 hx) (fun rv1 s1 hq1 => ?_)
      obtain ⟨rfl, hq1⟩ := hq1
      replace hq1 := hq1.symm
      subst hq1
      refine Wp.go rfl ?_
      refine Wp.beqE (b := false) rfl (fun _ => ?_) (fun q => by cases q)
      refine Wp.go rfl ?_
      refine Wp.ret rfl ?_
      exact ⟨rfl, hK, ofR.rf⟩
  · obtain ⟨hx, hlp⟩ := hu
    rcases v with _ | q
    · have hy : y < 0 := hv
      iterate 3 refine Wp.go rfl ?_
      refine Wp.call rfl cqX9_isKind (sX9_isKind hK.1 hk.1 hx (by omega)) (fun rv1 s1 hq1 => ?_)
      obtain ⟨rfl, hq1⟩ := hq1
      replace hq1 := hq1.symm
      subst hq1
      refine Wp.go rfl ?_
      refine Wp.beqE rfl (fun (h1 : (isK K.1 p) = false) => ?_) (fun (h1 : (isK K.1 p) = true) => ?_)
      · refine Wp.go rfl ?_
        refine Wp.ret rfl ?_
        exact ⟨rfl, hK, ofR.rf⟩
      · iterate 3 refine Wp.go rfl ?_
        refine Wp.call rfl cqX9_isKind (sX9_isKind_n hK.1 hk.1 hy) (fun rv2 s2 hq2 => ?_)
        obtain ⟨rfl, hq2⟩ := hq2
        replace hq2 := hq2.symm
        subst hq2
        refine Wp.go rfl ?_
        refine Wp.beqE (b := false) rfl (fun _ => ?_) (fun q => by cases q)
        refine Wp.go rfl ?_
        refine Wp.ret rfl ?_
        exact ⟨rfl, hK, ofR.rf⟩
    · obtain ⟨hy, hlq⟩ := hv
      iterate 3 refine Wp.go rfl ?_
      refine Wp.call rfl cqX9_isKind (sX9_isKind hK.1 hk.1 hx (by omega)) (fun rv1 s1 hq1 => ?_)
      obtain ⟨rfl, hq1⟩ := hq1
      replace hq1 := hq1.symm
      subst hq1
      refine Wp.go rfl ?_
      refine Wp.beqE rfl (fun (h1 : (isK K.1 p) = false) => ?_) (fun (h1 : (isK K.1 p) = true) => ?_)
      · refine Wp.go rfl ?_
        refine Wp.ret rfl ?_
        refine ⟨?_, hK, ofR.rf⟩
        unfold jnR; simp [*]
      · iterate 3 refine Wp.go rfl ?_
        refine Wp.call rfl cqX9_isKind (sX9_isKind hK.1 hk.1 hy (by omega)) (fun rv2 s2 hq2 => ?_)
        obtain ⟨rfl, hq2⟩ := hq2
        replace hq2 := hq2.symm
        subst hq2
        refine Wp.go rfl ?_
        refine Wp.beqE rfl (fun (h2 : (isK K.1 q) = false) => ?_) (fun (h2 : (isK K.1 q) = true) => ?_)
        · refine Wp.go rfl ?_
          refine Wp.ret rfl ?_
          refine ⟨?_, hK, ofR.rf⟩
          unfold jnR; simp [*]
        · iterate 4 refine Wp.go rfl ?_
          refine Wp.call rfl cqX9_join (sX9_join hK.1 hk.1 hx (by omega) hy (by omega)) (fun rv3 s3 hq3 => ?_)
          obtain ⟨rfl, hq3⟩ := hq3
          replace hq3 := hq3.symm
          subst hq3
          refine Wp.go rfl ?_
          refine Wp.ret rfl ?_
          refine ⟨?_, hK, ofR.rf⟩
          unfold jnR; simp [*]
set_option maxRecDepth 100000 in
theorem sX11_goes {K : kS} {σ : mc_G} (hK : cCls K σ) (hk : kOk K) {x y : Int32} {u v : Option Nat} (hu : oV x u) (hv : oV y v) : Wp miX11_goes 0 [(0, .inr (some 0)), (1, .inl x), (2, .inl y)] [] σ (fun rv σ' => rv = some (.inl (goR K u v)) ∧ cCls K σ' ∧ ofR 0 166 σ σ') := by
  rcases u with _ | p
  · have hx : x < 0 := hu
    rcases v with _ | q
    · have hy : y < 0 := hv
      iterate 3 refine Wp.go rfl ?_
      refine Wp.call rfl cqX9_isKind (sX9_isKind_n hK.1 hk.1 hx) (fun rv1 s1 hq1 => ?_)
      obtain ⟨rfl, hq1⟩ := hq1
      replace hq1 := hq1.symm
      subst hq1
      refine Wp.go rfl ?_
      refine Wp.beqE (b := false) rfl (fun _ => ?_) (fun q => by cases q)
      refine Wp.go rfl ?_
      refine Wp.ret rfl ?_
      exact ⟨rfl, hK, ofR.rf⟩
    · obtain ⟨hy, hlq⟩ := hv
      iterate 3 refine Wp.go rfl ?_
      refine Wp.call rfl cqX9_isKind (sX9_isKind_n hK.1 hk.1 hx) (fun rv1 s1 hq1 => ?_)
      obtain ⟨rfl, hq1⟩ := hq1
      replace hq1 := hq1.symm
      subst hq1
      refine Wp.go rfl ?_
      refine Wp.beqE (b := false) rfl (fun _ => ?_) (fun q => by cases q)
      refine Wp.go rfl ?_
      refine Wp.ret rfl ?_
      exact ⟨rfl, hK, ofR.rf⟩
  · obtain ⟨hx, hlp⟩ := hu
    rcases v with _ | q
    · have hy : y < 0 := hv
      iterate 3 refine Wp.go rfl ?_
      refine Wp.call rfl cqX9_isKind (sX9_isKind hK.1 hk.1 hx (by omega)) (fun rv1 s1 hq1 => ?_)
      obtain ⟨rfl, hq1⟩ := hq1
      replace hq1 := hq1.symm
      subst hq1
      refine Wp.go rfl ?_
      refine Wp.beqE rfl (fun (h1 : (isK K.1 p) = false) => ?_) (fun (h1 : (isK K.1 p) = true) => ?_)
      · refine Wp.go rfl ?_
        refine Wp.ret rfl ?_
        exact ⟨rfl, hK, ofR.rf⟩
      · iterate 3 refine Wp.go rfl ?_
        refine Wp.call rfl cqX9_isKind (sX9_isKind_n hK.1 hk.1 hy) (fun rv2 s2 hq2 => ?_)
        obtain ⟨rfl, hq2⟩ := hq2
        replace hq2 := hq2.symm
        subst hq2
        refine Wp.go rfl ?_
        refine Wp.bneE (b := false) rfl (fun q => by cases q) (fun _ => ?_)
        refine Wp.go rfl ?_
        refine Wp.ret rfl ?_
        exact ⟨rfl, hK, ofR.rf⟩
    · obtain ⟨hy, hlq⟩ := hv
      iterate 3 refine Wp.go rfl ?_
      refine Wp.call rfl cqX9_isKind (sX9_isKind hK.1 hk.1 hx (by omega)) (fun rv1 s1 hq1 => ?_)
      obtain ⟨rfl, hq1⟩ := hq1
      replace hq1 := hq1.symm
      subst hq1
      refine Wp.go rfl ?_
      refine Wp.beqE rfl (fun (h1 : (isK K.1 p) = false) => ?_) (fun (h1 : (isK K.1 p) = true) => ?_)
      · refine Wp.go rfl ?_
        refine Wp.ret rfl ?_
        refine ⟨?_, hK, ofR.rf⟩
        simp [goR, bI, *]
      · iterate 3 refine Wp.go rfl ?_
        refine Wp.call rfl cqX9_isKind (sX9_isKind hK.1 hk.1 hy (by omega)) (fun rv2 s2 hq2 => ?_)
        obtain ⟨rfl, hq2⟩ := hq2
        replace hq2 := hq2.symm
        subst hq2
        refine Wp.go rfl ?_
        refine Wp.bneE rfl (fun (h2 : (isK K.1 q) = true) => ?_) (fun (h2 : (isK K.1 q) = false) => ?_)
        · iterate 4 refine Wp.go rfl ?_
          refine Wp.call rfl cqX9_standsFor (sX9_standsFor hK.1 hk.1 hx (by omega) hy (by omega)) (fun rv3 s3 hq3 => ?_)
          obtain ⟨rfl, hq3⟩ := hq3
          replace hq3 := hq3.symm
          subst hq3
          refine Wp.go rfl ?_
          refine Wp.beqE rfl (fun (h3 : (gfA K.1 p q) = false) => ?_) (fun (h3 : (gfA K.1 p q) = true) => ?_)
          · refine Wp.go rfl ?_
            refine Wp.ret rfl ?_
            refine ⟨?_, hK, ofR.rf⟩
            simp [goR, bI, *]
          · iterate 2 refine Wp.go rfl ?_
            refine Wp.ret rfl ?_
            refine ⟨?_, hK, ofR.rf⟩
            simp [goR, bI, *]
        · refine Wp.go rfl ?_
          refine Wp.ret rfl ?_
          refine ⟨?_, hK, ofR.rf⟩
          simp [goR, bI, *]
set_option maxRecDepth 100000 in
theorem sX11_changed_n {σ : mc_G} {x : Int32} (hx : x < 0) : Wp miX11_changed 0 [(0, .inr (some 0)), (1, .inl x)] [] σ (fun rv σ' => rv = some (.inl x) ∧ σ' = σ) := by
  refine Wp.go rfl ?_
  refine Wp.go rfl ?_
  refine Wp.lt (fun _ => ?_) (fun q => absurd hx q)
  refine Wp.go rfl ?_
  refine Wp.ret rfl ?_
  exact ⟨rfl, rfl⟩
theorem sX11_changed {σ : mc_G} {x : Int32} {k : Nat} (hx : x = nI k) (hl : k < 2 ^ 31) : Wp miX11_changed 0 [(0, .inr (some 0)), (1, .inl x)] [] σ (fun rv σ' => rv = some (.inl x) ∧ σ' = mc_up σ 0 8 0) := by
  refine Wp.go rfl ?_
  refine Wp.go rfl ?_
  refine Wp.ltN (a := k) (b := 0) hx rfl hl (by decide) (fun q => by omega) (fun _ => ?_)
  iterate 4 refine Wp.go rfl ?_
  refine Wp.ret rfl ?_
  exact ⟨rfl, rfl⟩
theorem cCls.kn {K : kS} {σ : mc_G} (h : cCls K σ) : cCls (kN K) (mc_up σ 0 8 0) := h.mad (m := false) rfl
set_option maxRecDepth 100000 in
theorem sX11_type {K : kS} {σ : mc_G} (hK : cCls K σ) (hk : kOk K) {x y : Int32} {u : Option Nat} {f : Bool} (hu : oV x u) (hy : y = bI f) : Wp miX11_type 0 [(0, .inr (some 0)), (1, .inl x), (2, .inl y)] [] σ (fun rv σ' => rv = some (.inl (tyR K f u).1) ∧ cCls (tyR K f u).2 σ' ∧ ofR 0 166 σ σ') := by
  iterate 5 refine Wp.go rfl ?_
  rcases u with _ | p
  · refine Wp.call rfl cqX9_add (sX9_add_neg hK.1 hk.1 hu) (fun rv1 s1 hq1 => ?_)
    obtain ⟨rfl, hq1⟩ := hq1
    replace hq1 := hq1.symm
    subst hq1
    refine Wp.call rfl cqX11_changed (sX11_changed_n (by decide)) (fun rv2 s2 hq2 => ?_)
    obtain ⟨rfl, hq2⟩ := hq2
    replace hq2 := hq2.symm
    subst hq2
    refine Wp.ret rfl ?_
    exact ⟨rfl, hK, ofR.rf⟩
  · obtain ⟨hx, hp⟩ := hu
    by_cases hg : tyB K.1 p f = true
    · by_cases h8 : tc K.1 < 8
      · have e1 : tyR K f (some p) = (nI (tc K.1), kN (kT K (taA K.1 p f))) := by show (if _ then _ else _) = _; rw [if_pos hg, if_pos h8]
        rw [e1]
        refine Wp.call rfl cqX9_add (sX9_add hK.1 hk.1 hx hp hy (tyB_t.mp hg) h8) (fun rv1 s1 hq1 => ?_)
        obtain ⟨rfl, hT1, ho1⟩ := hq1
        refine Wp.call rfl cqX11_changed (sX11_changed rfl (by omega)) (fun rv2 s2 hq2 => ?_)
        obtain ⟨rfl, rfl⟩ := hq2
        refine Wp.ret rfl ?_
        exact ⟨rfl, (hK.typ ho1.r hT1).kn, (ho1.r.wi (by decide) (by decide)).tr ((up_r _ _ _ _).wi (by decide) (by decide))⟩
      · have e1 : tyR K f (some p) = (-3, K) := by show (if _ then _ else _) = _; rw [if_pos hg, if_neg h8]
        rw [e1]
        refine Wp.call rfl cqX9_add (sX9_add_full hK.1 hk.1 hx hp hy (tyB_t.mp hg) (by have := hk.1.2.1; omega)) (fun rv1 s1 hq1 => ?_)
        obtain ⟨rfl, hq1⟩ := hq1
        replace hq1 := hq1.symm
        subst hq1
        refine Wp.call rfl cqX11_changed (sX11_changed_n (by decide)) (fun rv2 s2 hq2 => ?_)
        obtain ⟨rfl, hq2⟩ := hq2
        replace hq2 := hq2.symm
        subst hq2
        refine Wp.ret rfl ?_
        exact ⟨rfl, hK, ofR.rf⟩
    · have e1 : tyR K f (some p) = (-2, K) := by show (if _ then _ else _) = _; rw [if_neg hg]
      rw [e1]
      refine Wp.call rfl cqX9_add (sX9_add_bad hK.1 hk.1 hx hp hy (fun q => hg (tyB_t.mpr q))) (fun rv1 s1 hq1 => ?_)
      obtain ⟨rfl, hq1⟩ := hq1
      replace hq1 := hq1.symm
      subst hq1
      refine Wp.call rfl cqX11_changed (sX11_changed_n (by decide)) (fun rv2 s2 hq2 => ?_)
      obtain ⟨rfl, hq2⟩ := hq2
      replace hq2 := hq2.symm
      subst hq2
      refine Wp.ret rfl ?_
      exact ⟨rfl, hK, ofR.rf⟩

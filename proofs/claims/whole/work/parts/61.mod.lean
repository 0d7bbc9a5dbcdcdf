set_option maxRecDepth 100000 in
theorem sX12_isIn {σ : mc_G} {v l m : Int32} : Wp miX12_isIn 0 [(0, .inl v), (1, .inl l), (2, .inl m)] [] σ (fun rv σ' => rv = some (.inl (bI (decide (¬ v < l ∧ ¬ m < v)))) ∧ σ' = σ) := by
  iterate 3 refine Wp.go rfl ?_
  refine Wp.lt (fun h1 => ?_) (fun h1 => ?_)
  · refine Wp.go rfl ?_
    refine Wp.ret rfl ?_
    exact ⟨rv0 (by simp [h1]), rfl⟩
  · iterate 3 refine Wp.go rfl ?_
    refine Wp.gt (fun h2 => ?_) (fun h2 => ?_)
    · refine Wp.go rfl ?_
      refine Wp.ret rfl ?_
      exact ⟨rv0 (by simp [h2]), rfl⟩
    · iterate 2 refine Wp.go rfl ?_
      refine Wp.ret rfl ?_
      exact ⟨rv1 (by simp [h1, h2]), rfl⟩
theorem sX12_isIn_n {σ : mc_G} {v l m : Int32} {k a b : Nat} (hv : v = nI k) (hk : k < 2 ^ 31) (hl : l = nI a) (ha : a < 2 ^ 31) (hm : m = nI b) (hb : b < 2 ^ 31) : Wp miX12_isIn 0 [(0, .inl v), (1, .inl l), (2, .inl m)] [] σ (fun rv σ' => rv = some (.inl (bI (decide (a ≤ k ∧ k ≤ b)))) ∧ σ' = σ) := by
  refine sX12_isIn.mono (fun rv σ' h => ⟨?_, h.2⟩)
  rw [h.1, hv, hl, hm, show decide (¬ nI k < nI a ∧ ¬ nI b < nI k) = decide (a ≤ k ∧ k ≤ b) from decide_eq_decide.mpr (by rw [nI_ltI hk ha, nI_ltI hb hk]; omega)]
theorem sX12_isIn_g {σ : mc_G} {v l m : Int32} {a : Nat} (hv : v < 0) (hl : l = nI a) (ha : a < 2 ^ 31) : Wp miX12_isIn 0 [(0, .inl v), (1, .inl l), (2, .inl m)] [] σ (fun rv σ' => rv = some (.inl (bI false)) ∧ σ' = σ) := by
  refine sX12_isIn.mono (fun rv σ' h => ⟨?_, h.2⟩)
  rw [h.1, hl, show decide (¬ v < nI a ∧ ¬ m < v) = false from by simp [neg_lt hv ha]]
theorem sub_toInt {k c : Nat} (hk : k < 2 ^ 31) (hc : c < 2 ^ 31) : (nI k - nI c).toInt = (k : Int) - c := by
  rw [Int32.toInt_sub, nI_toInt hk, nI_toInt hc]
  apply Int.bmod_eq_of_le <;> omega
theorem sX12_isIn_d {σ : mc_G} {v l m : Int32} {k c b : Nat} (hv : v = nI k - nI c) (hk : k < 2 ^ 31) (hc : c < 2 ^ 31) (hl : l = nI 0) (hm : m = nI b) (hb : b < 2 ^ 31) : Wp miX12_isIn 0 [(0, .inl v), (1, .inl l), (2, .inl m)] [] σ (fun rv σ' => rv = some (.inl (bI (decide (c ≤ k) && decide (k ≤ c + b)))) ∧ σ' = σ) := by
  refine sX12_isIn.mono (fun rv σ' h => ⟨?_, h.2⟩)
  have e1 : (v < nI 0) ↔ k < c := by rw [Int32.lt_iff_toInt_lt, hv, sub_toInt hk hc, nI_toInt (by decide)]; omega
  have e2 : (nI b < v) ↔ c + b < k := by rw [Int32.lt_iff_toInt_lt, hv, sub_toInt hk hc, nI_toInt hb]; omega
  rw [h.1, hl, hm, show decide (¬ v < nI 0 ∧ ¬ nI b < v) = (decide (c ≤ k) && decide (k ≤ c + b)) from (decide_eq_decide.mpr (show _ ↔ (c ≤ k ∧ k ≤ c + b) by rw [e1, e2]; omega)).trans (Bool.decide_and _ _)]
theorem sX12_isIn_e {σ : mc_G} {v x l m : Int32} {c b : Nat} (hv : v = x - nI c) (hx : x < 0) (hc : c ≤ 200) (hl : l = nI 0) (hm : m = nI b) (hb : b < 1000) : Wp miX12_isIn 0 [(0, .inl v), (1, .inl l), (2, .inl m)] [] σ (fun rv σ' => rv = some (.inl (bI false)) ∧ σ' = σ) := by
  refine sX12_isIn.mono (fun rv σ' h => ⟨?_, h.2⟩)
  have e0 : (0 : Int32).toInt = 0 := rfl
  have h1 := Int32.lt_iff_toInt_lt.mp hx
  have h2 := Int32.le_toInt x
  have hvt : v.toInt = (x.toInt - c).bmod (2 ^ 32) := by rw [hv, Int32.toInt_sub, nI_toInt (by omega)]
  have hq : ¬ (¬ v < nI 0 ∧ ¬ nI b < v) := by
    rintro ⟨a1, a2⟩
    rw [Int32.lt_iff_toInt_lt, nI_toInt (by decide)] at a1
    rw [Int32.lt_iff_toInt_lt, nI_toInt (by omega)] at a2
    have h3 : v.toInt = x.toInt - c ∨ v.toInt = x.toInt - c + 2 ^ 32 := by
      rw [hvt]
      by_cases e : -(2 ^ 31 : Int) ≤ x.toInt - c
      · left; apply Int.bmod_eq_of_le <;> omega
      · right
        have : (x.toInt - c).bmod (2 ^ 32) = (x.toInt - c + 2 ^ 32).bmod (2 ^ 32) := by first | exact (Int.bmod_add_cancel).symm | exact (Int.add_bmod_right ..).symm | (simp only [Int.bmod]; omega)
        rw [this]
        apply Int.bmod_eq_of_le <;> omega
    simp at h2
    omega
  rw [h.1, hl, hm, decide_eq_false hq]
set_option maxRecDepth 100000 in
theorem sX12_isType {T : tT} {σ : mc_G} (hT : cMT T σ) (hO : tOk T) {v : Int32} {k : Nat} (hv : v = nI k) (hk : k < 2 ^ 31) : Wp miX12_isType 0 [(0, .inr (some 167)), (1, .inl v)] [] σ (fun rv σ' => rv = some (.inl (bI (decide (k < tc T)))) ∧ σ' = σ) := by
  have h1 := hO.1
  have h8 := hO.2.1
  iterate 6 refine Wp.go rfl ?_
  refine Wp.call rfl cqX12_isIn (sX12_isIn_n hv hk (rfl : _ = nI 0) (by decide) (nE_sub hT.1 (rfl : _ = nI 1) h1) (by omega)) (fun rv1 s1 hq1 => ?_)
  obtain ⟨rfl, hq1⟩ := hq1
  replace hq1 := hq1.symm
  subst hq1
  refine Wp.retB rfl rfl rfl ?_
  exact ⟨rvB rfl (decide_eq_decide.mpr (by omega)), rfl⟩
set_option maxRecDepth 100000 in
theorem sX12_isType_g {T : tT} {σ : mc_G} (hT : cMT T σ) (hO : tOk T) {v : Int32} (hv : v < 0) : Wp miX12_isType 0 [(0, .inr (some 167)), (1, .inl v)] [] σ (fun rv σ' => rv = some (.inl (bI (false))) ∧ σ' = σ) := by
  have h1 := hO.1
  have h8 := hO.2.1
  iterate 6 refine Wp.go rfl ?_
  refine Wp.call rfl cqX12_isIn (sX12_isIn_g hv (rfl : _ = nI 0) (by decide)) (fun rv1 s1 hq1 => ?_)
  obtain ⟨rfl, hq1⟩ := hq1
  replace hq1 := hq1.symm
  subst hq1
  refine Wp.retB rfl rfl rfl ?_
  exact ⟨rfl, rfl⟩
set_option maxRecDepth 100000 in
theorem sX12_isType_d {T : tT} {σ : mc_G} (hT : cMT T σ) (hO : tOk T) {v : Int32} {k : Nat} (hv : v = nI k - nI 100) (hk : k < 2 ^ 31) : Wp miX12_isType 0 [(0, .inr (some 167)), (1, .inl v)] [] σ (fun rv σ' => rv = some (.inl (bI (thK T k))) ∧ σ' = σ) := by
  have h1 := hO.1
  have h8 := hO.2.1
  iterate 6 refine Wp.go rfl ?_
  refine Wp.call rfl cqX12_isIn (sX12_isIn_d hv hk (by decide) (rfl : _ = nI 0) (nE_sub hT.1 (rfl : _ = nI 1) h1) (by omega)) (fun rv1 s1 hq1 => ?_)
  obtain ⟨rfl, hq1⟩ := hq1
  replace hq1 := hq1.symm
  subst hq1
  refine Wp.retB rfl rfl rfl ?_
  exact ⟨rvB rfl (by unfold thK; rw [show decide (k ≤ 100 + (tc T - 1)) = decide (k < 100 + tc T) from decide_eq_decide.mpr (by omega)]), rfl⟩
set_option maxRecDepth 100000 in
theorem sX12_isType_e {T : tT} {σ : mc_G} (hT : cMT T σ) (hO : tOk T) {v x : Int32} (hv : v = x - nI 100) (hx : x < 0) : Wp miX12_isType 0 [(0, .inr (some 167)), (1, .inl v)] [] σ (fun rv σ' => rv = some (.inl (bI (false))) ∧ σ' = σ) := by
  have h1 := hO.1
  have h8 := hO.2.1
  iterate 6 refine Wp.go rfl ?_
  refine Wp.call rfl cqX12_isIn (sX12_isIn_e hv hx (by decide) (rfl : _ = nI 0) (nE_sub hT.1 (rfl : _ = nI 1) h1) (by omega)) (fun rv1 s1 hq1 => ?_)
  obtain ⟨rfl, hq1⟩ := hq1
  replace hq1 := hq1.symm
  subst hq1
  refine Wp.retB rfl rfl rfl ?_
  exact ⟨rfl, rfl⟩
set_option maxRecDepth 100000 in
theorem sX12_isKind {T : tT} {σ : mc_G} (hT : cMT T σ) (hO : tOk T) {x : Int32} {k : Nat} (hx : x = nI k) (hk : k < 2 ^ 31) : Wp miX12_isKind 0 [(0, .inr (some 167)), (1, .inl x)] [] σ (fun rv σ' => rv = some (.inl (bI (isK T k))) ∧ σ' = σ) := by
  iterate 3 refine Wp.go rfl ?_
  refine Wp.call rfl cqX12_isIn (sX12_isIn_n hx (by omega) (rfl : _ = nI 0) (by omega) (rfl : _ = nI 4) (by omega)) (fun rv1 s1 hq1 => ?_)
  obtain ⟨rfl, hq1⟩ := hq1
  replace hq1 := hq1.symm
  subst hq1
  refine Wp.go rfl ?_
  refine Wp.bneD (p := 0 ≤ k ∧ k ≤ 4) rfl (fun (h1 : 0 ≤ k ∧ k ≤ 4) => ?_) (fun (h1 : ¬ (0 ≤ k ∧ k ≤ 4)) => ?_)
  · iterate 2 refine Wp.go rfl ?_
    refine Wp.ret rfl ?_
    exact ⟨rv1 (by simp [isK, plK, rfK, thK, bgK] at *; omega), rfl⟩
  · iterate 4 refine Wp.go rfl ?_
    refine Wp.call rfl cqX12_isType (sX12_isType_d hT hO (iE_sub hx (rfl : _ = nI 100)) (by omega)) (fun rv2 s2 hq2 => ?_)
    obtain ⟨rfl, hq2⟩ := hq2
    replace hq2 := hq2.symm
    subst hq2
    refine Wp.go rfl ?_
    refine Wp.bneE rfl (fun (h2 : (thK T k) = true) => ?_) (fun (h2 : (thK T k) = false) => ?_)
    · iterate 2 refine Wp.go rfl ?_
      refine Wp.ret rfl ?_
      exact ⟨rv1 (by simp [isK, plK, rfK, thK, bgK] at *; omega), rfl⟩
    · iterate 5 refine Wp.go rfl ?_
      refine Wp.call rfl cqX12_isIn (sX12_isIn_d (iE_sub hx (rfl : _ = nI 200)) (by omega) (by decide) (rfl : _ = nI 0) (rfl : _ = nI 29) (by omega)) (fun rv3 s3 hq3 => ?_)
      obtain ⟨rfl, hq3⟩ := hq3
      replace hq3 := hq3.symm
      subst hq3
      refine Wp.go rfl ?_
      refine Wp.beqE rfl (fun (h3 : (decide (200 ≤ k) && decide (k ≤ 200 + 29)) = false) => ?_) (fun (h3 : (decide (200 ≤ k) && decide (k ≤ 200 + 29)) = true) => ?_)
      · refine Wp.go rfl ?_
        refine Wp.ret rfl ?_
        exact ⟨rv0 (by simp [isK, plK, rfK, thK, bgK] at *; omega), rfl⟩
      · iterate 2 refine Wp.go rfl ?_
        refine Wp.ret rfl ?_
        exact ⟨rv1 (by simp [isK, plK, rfK, thK, bgK] at *; omega), rfl⟩
set_option maxRecDepth 100000 in
theorem sX12_isKind_g {T : tT} {σ : mc_G} (hT : cMT T σ) (hO : tOk T) {x : Int32} (hx : x < 0) : Wp miX12_isKind 0 [(0, .inr (some 167)), (1, .inl x)] [] σ (fun rv σ' => rv = some (.inl (bI false)) ∧ σ' = σ) := by
  iterate 3 refine Wp.go rfl ?_
  refine Wp.call rfl cqX12_isIn (sX12_isIn_g hx (rfl : _ = nI 0) (by decide)) (fun rv1 s1 hq1 => ?_)
  obtain ⟨rfl, hq1⟩ := hq1
  replace hq1 := hq1.symm
  subst hq1
  refine Wp.go rfl ?_
  refine Wp.bneE (b := false) rfl (fun q => by cases q) (fun _ => ?_)
  iterate 4 refine Wp.go rfl ?_
  refine Wp.call rfl cqX12_isType (sX12_isType_e hT hO (iE_sub (rfl : _ = x) (rfl : _ = nI 100)) hx) (fun rv2 s2 hq2 => ?_)
  obtain ⟨rfl, hq2⟩ := hq2
  replace hq2 := hq2.symm
  subst hq2
  refine Wp.go rfl ?_
  refine Wp.bneE (b := false) rfl (fun q => by cases q) (fun _ => ?_)
  iterate 5 refine Wp.go rfl ?_
  refine Wp.call rfl cqX12_isIn (sX12_isIn_e (iE_sub (rfl : _ = x) (rfl : _ = nI 200)) hx (by decide) (rfl : _ = nI 0) (rfl : _ = nI 29) (by omega)) (fun rv3 s3 hq3 => ?_)
  obtain ⟨rfl, hq3⟩ := hq3
  replace hq3 := hq3.symm
  subst hq3
  refine Wp.go rfl ?_
  refine Wp.beqE (b := false) rfl (fun _ => ?_) (fun q => by cases q)
  refine Wp.go rfl ?_
  refine Wp.ret rfl ?_
  exact ⟨rv0 (by rfl), rfl⟩
def t8K (k : Nat) : Bool := decide (100 ≤ k ∧ k ≤ 107)
def r8K (k : Nat) : Bool := decide (k = 4) || t8K k
set_option maxRecDepth 100000 in
theorem sX12_isThing {σ : mc_G} {x : Int32} {k : Nat} (hx : x = nI k) (hk : k < 2 ^ 31) : Wp miX12_isThing 0 [(0, .inl x)] [] σ (fun rv σ' => rv = some (.inl (bI (t8K k))) ∧ σ' = σ) := by
  iterate 3 refine Wp.go rfl ?_
  refine Wp.call rfl cqX12_isIn (sX12_isIn_n hx (by omega) (rfl : _ = nI 100) (by omega) (rfl : _ = nI 107) (by omega)) (fun rv1 s1 hq1 => ?_)
  obtain ⟨rfl, hq1⟩ := hq1
  replace hq1 := hq1.symm
  subst hq1
  refine Wp.retB (b := decide (100 ≤ k ∧ k ≤ 107)) rfl rfl rfl ?_
  exact ⟨rvB rfl (by rfl), rfl⟩
set_option maxRecDepth 100000 in
theorem sX12_isThingOrNull {σ : mc_G} {x : Int32} {k : Nat} (hx : x = nI k) (hk : k < 2 ^ 31) : Wp miX12_isThingOrNull 0 [(0, .inl x)] [] σ (fun rv σ' => rv = some (.inl (bI (r8K k))) ∧ σ' = σ) := by
  iterate 3 refine Wp.go rfl ?_
  refine Wp.eqN (a := k) (b := 4) hx (rfl : _ = nI 4) (by omega) (by omega) (fun (h1 : k = 4) => ?_) (fun (h1 : ¬ k = 4) => ?_)
  · iterate 2 refine Wp.go rfl ?_
    refine Wp.ret rfl ?_
    exact ⟨rv1 (by unfold r8K; simp [*]), rfl⟩
  · refine Wp.go rfl ?_
    refine Wp.call rfl cqX12_isThing (sX12_isThing hx (by omega)) (fun rv1 s1 hq1 => ?_)
    obtain ⟨rfl, hq1⟩ := hq1
    replace hq1 := hq1.symm
    subst hq1
    refine Wp.go rfl ?_
    refine Wp.beqE rfl (fun (h2 : (t8K k) = false) => ?_) (fun (h2 : (t8K k) = true) => ?_)
    · refine Wp.go rfl ?_
      refine Wp.ret rfl ?_
      exact ⟨rv0 (by unfold r8K; simp [*]), rfl⟩
    · iterate 2 refine Wp.go rfl ?_
      refine Wp.ret rfl ?_
      exact ⟨rv1 (by unfold r8K; simp [*]), rfl⟩
theorem ne_st {T : tT} (hO : tOk T) {k b : Nat} (hk : k < tc T) (hb : b < tc T) (h0 : 0 < k) (hn : k ≠ b) : (neA T k b = b) ↔ (neA T (tp T k) b = b) := by
  have ht := tp_lt hO hk h0
  rcases Nat.lt_or_ge b k with h | h
  · rw [ne_s hO hk h]
  · have l1 := ne_l hO hk hb
    have l2 := ne_l hO (i := tp T k) (by omega) hb
    constructor <;> intro q <;> omega
set_option maxRecDepth 100000 in
theorem lX12_comes {T : tT} {σ : mc_G} (hT : cMT T σ) (hO : tOk T) {x y : Int32} {b : Nat} (hy : y = nI b) (hb : b < tc T) : ∀ (n k : Nat) (z : Int32), z = nI k → k < n → k < tc T → Wp miX12_comes 2 [(0, .inr (some 167)), (1, .inl (x)), (2, .inl y), (3, .inl z)] [] σ (fun rv σ' => rv = some (.inl (bI (decide (neA T k b = b)))) ∧ σ' = σ) := by
  have h8 := hO.2.1
  intro n
  induction n with
  | zero => intro k z hz h; omega
  | succ n ih =>
    intro k z hz hkn hk
    iterate 3 refine Wp.go rfl ?_
    refine Wp.eqN (a := k) (b := b) hz hy (by omega) (by omega) (fun (h1 : k = b) => ?_) (fun (h1 : ¬ k = b) => ?_)
    · iterate 3 refine Wp.go rfl ?_
      refine Wp.neN (a := k) (b := b) hz hy (by omega) (by omega) (fun (h2 : ¬ k = b) => ?_) (fun (h2 : k = b) => ?_)
      · refine Wp.go rfl ?_
        refine Wp.ret rfl ?_
        first | (exfalso; omega) | exact ⟨rv0 (decide_eq_false (by rw [show k = 0 by omega, ne_0 hO hb]; omega)), rfl⟩
      · iterate 2 refine Wp.go rfl ?_
        refine Wp.ret rfl ?_
        first | (exfalso; omega) | exact ⟨rv1 (decide_eq_true (by rw [show k = b by omega]; exact ne_r T b)), rfl⟩
    · iterate 2 refine Wp.go rfl ?_
      refine Wp.eqN (a := k) (b := 0) hz (rfl : _ = nI 0) (by omega) (by omega) (fun (h3 : k = 0) => ?_) (fun (h3 : ¬ k = 0) => ?_)
      · iterate 3 refine Wp.go rfl ?_
        refine Wp.neN (a := k) (b := b) hz hy (by omega) (by omega) (fun (h4 : ¬ k = b) => ?_) (fun (h4 : k = b) => ?_)
        · refine Wp.go rfl ?_
          refine Wp.ret rfl ?_
          first | (exfalso; omega) | exact ⟨rv0 (decide_eq_false (by rw [show k = 0 by omega, ne_0 hO hb]; omega)), rfl⟩
        · iterate 2 refine Wp.go rfl ?_
          refine Wp.ret rfl ?_
          first | (exfalso; omega) | exact ⟨rv1 (decide_eq_true (by rw [show k = b by omega]; exact ne_r T b)), rfl⟩
      · iterate 3 refine Wp.go rfl ?_
        refine Wp.go (if_pos ⟨rfl, rfl, (inE (n := 8) hz (by omega))⟩) ?_
        iterate 2 refine Wp.go rfl ?_
        have ht := tp_lt hO hk (by omega)
        refine Wp.lo (lo := [(0, .inr (some 167)), (1, .inl _), (2, .inl _), (3, .inl _)]) ⟨rfl, rfl, rfl, rfl, trivial⟩ ?_
        have e1 : decide (neA T k b = b) = decide (neA T (tp T k) b = b) := decide_eq_decide.mpr (ne_st hO hk hb (by omega) (by omega))
        rw [e1]
        exact ih (tp T k) _ (rdE hz (by omega) ((hT.2 k (by omega)).1)) (by omega) (by omega)
theorem sX12_comes {T : tT} {σ : mc_G} (hT : cMT T σ) (hO : tOk T) {x y : Int32} {k b : Nat} (hx : x = nI k) (hk : k < tc T) (hy : y = nI b) (hb : b < tc T) : Wp miX12_comes 0 [(0, .inr (some 167)), (1, .inl x), (2, .inl y)] [] σ (fun rv σ' => rv = some (.inl (bI (decide (neA T k b = b)))) ∧ σ' = σ) := by
  iterate 2 refine Wp.go rfl ?_
  refine Wp.lo (lo := [(0, .inr (some 167)), (1, .inl _), (2, .inl _), (3, .inl _)]) ⟨rfl, rfl, rfl, rfl, trivial⟩ ?_
  exact lX12_comes hT hO hy hb (k + 1) k _ hx (by omega) hk
set_option maxRecDepth 100000 in
theorem sX12_goesFor {T : tT} {σ : mc_G} (hT : cMT T σ) (hO : tOk T) {x y : Int32} {k j : Nat} (hx : x = nI k) (hk : k < 2 ^ 30) (hy : y = nI j) (hj : j < 2 ^ 30) (hk8 : t8K k = true → k < 100 + tc T) (hj8 : t8K j = true → j < 100 + tc T) : Wp miX12_goesFor 0 [(0, .inr (some 167)), (1, .inl x), (2, .inl y)] [] σ (fun rv σ' => rv = some (.inl (bI (gfA T k j))) ∧ σ' = σ) := by
  have h8 := hO.2.1
  iterate 3 refine Wp.go rfl ?_
  refine Wp.eqN (a := k) (b := j) hx hy (by first | omega | (simp [t8K] at *; omega)) (by first | omega | (simp [t8K] at *; omega)) (fun (h1 : k = j) => ?_) (fun (h1 : ¬ k = j) => ?_)
  · refine Wp.go rfl ?_
    refine Wp.ret rfl ?_
    exact ⟨rv1 (by unfold gfA; simp [t8K, thK, rfK] at *; first | omega | (simp_all; done) | (simp_all; omega)), rfl⟩
  · iterate 2 refine Wp.go rfl ?_
    refine Wp.neN (a := j) (b := 0) hy (rfl : _ = nI 0) (by first | omega | (simp [t8K] at *; omega)) (by first | omega | (simp [t8K] at *; omega)) (fun (h2 : ¬ j = 0) => ?_) (fun (h2 : j = 0) => ?_)
    · refine Wp.go rfl ?_
      refine Wp.call rfl cqX12_isThing (sX12_isThing hy (by first | omega | (simp [t8K] at *; omega))) (fun rv1 s1 hq1 => ?_)
      obtain ⟨rfl, hq1⟩ := hq1
      replace hq1 := hq1.symm
      subst hq1
      refine Wp.go rfl ?_
      refine Wp.bneE rfl (fun (h3 : (t8K j) = true) => ?_) (fun (h3 : (t8K j) = false) => ?_)
      · iterate 3 refine Wp.go rfl ?_
        refine Wp.eqN (a := k) (b := 4) hx (rfl : _ = nI 4) (by first | omega | (simp [t8K] at *; omega)) (by first | omega | (simp [t8K] at *; omega)) (fun (h4 : k = 4) => ?_) (fun (h4 : ¬ k = 4) => ?_)
        · iterate 2 refine Wp.go rfl ?_
          refine Wp.ret rfl ?_
          exact ⟨rv1 (by unfold gfA; simp [t8K, thK, rfK] at *; first | omega | (simp_all; done) | (simp_all; omega)), rfl⟩
        · refine Wp.go rfl ?_
          refine Wp.call rfl cqX12_isThing (sX12_isThing hx (by first | omega | (simp [t8K] at *; omega))) (fun rv2 s2 hq2 => ?_)
          obtain ⟨rfl, hq2⟩ := hq2
          replace hq2 := hq2.symm
          subst hq2
          refine Wp.go rfl ?_
          refine Wp.beqE rfl (fun (h5 : (t8K k) = false) => ?_) (fun (h5 : (t8K k) = true) => ?_)
          · refine Wp.go rfl ?_
            refine Wp.ret rfl ?_
            exact ⟨rv0 (by unfold gfA; simp [t8K, thK, rfK] at *; first | omega | (simp_all; done) | (simp_all; omega)), rfl⟩
          · iterate 5 refine Wp.go rfl ?_
            refine Wp.go (if_pos ⟨rfl, rfl, (inE (n := 8) (nE_sub hy (rfl : _ = nI 100) (by first | omega | (simp [t8K] at *; omega))) (by first | omega | (simp [t8K] at *; omega)))⟩) ?_
            refine Wp.go rfl ?_
            refine Wp.bneE (rdE (nE_sub hy (rfl : _ = nI 100) (by first | omega | (simp [t8K] at *; omega))) (by first | omega | (simp [t8K] at *; omega)) ((hT.2 (j - 100) (by first | omega | (simp [t8K] at *; omega))).2)) (fun (h6 : (tf T (j - 100)) = true) => ?_) (fun (h6 : (tf T (j - 100)) = false) => ?_)
            · iterate 2 refine Wp.go rfl ?_
              refine Wp.ret rfl ?_
              exact ⟨rv1 (by unfold gfA; simp [t8K, thK, rfK] at *; first | omega | (simp_all; done) | (simp_all; omega)), rfl⟩
            · iterate 7 refine Wp.go rfl ?_
              refine Wp.call rfl cqX12_comes (sX12_comes hT hO (nE_sub hx (rfl : _ = nI 100) (by first | omega | (simp [t8K] at *; omega))) (by simp [t8K] at *; omega) (nE_sub hy (rfl : _ = nI 100) (by first | omega | (simp [t8K] at *; omega))) (by first | omega | (simp [t8K] at *; omega))) (fun rv3 s3 hq3 => ?_)
              obtain ⟨rfl, hq3⟩ := hq3
              replace hq3 := hq3.symm
              subst hq3
              refine Wp.go rfl ?_
              refine Wp.beqD (p := neA T (k - 100) (j - 100) = (j - 100)) rfl (fun (h7 : ¬ (neA T (k - 100) (j - 100) = (j - 100))) => ?_) (fun (h7 : neA T (k - 100) (j - 100) = (j - 100)) => ?_)
              · refine Wp.go rfl ?_
                refine Wp.ret rfl ?_
                exact ⟨rv0 (by unfold gfA; simp [t8K, thK, rfK] at *; first | omega | (simp_all; done) | (simp_all; omega)), rfl⟩
              · iterate 2 refine Wp.go rfl ?_
                refine Wp.ret rfl ?_
                exact ⟨rv1 (by unfold gfA; simp [t8K, thK, rfK] at *; first | omega | (simp_all; done) | (simp_all; omega)), rfl⟩
      · refine Wp.go rfl ?_
        refine Wp.ret rfl ?_
        exact ⟨rv0 (by unfold gfA; simp [t8K, thK, rfK] at *; first | omega | (simp_all; done) | (simp_all; omega)), rfl⟩
    · refine Wp.go rfl ?_
      refine Wp.ret rfl ?_
      exact ⟨rv1 (by unfold gfA; simp [t8K, thK, rfK] at *; first | omega | (simp_all; done) | (simp_all; omega)), rfl⟩

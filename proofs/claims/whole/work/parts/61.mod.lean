set_option maxRecDepth 100000 in
theorem sX12_isIn {σ : mc_G} {v l m : Int32} : Wp miX12_isIn 0 [(0, .inl v), (1, .inl l), (2, .inl m)] [] σ (fun rv σ' => rv = some (.inl (bI (decide (¬ v < l ∧ ¬ m < v)))) ∧ σ' = σ) := by
  iterate 3 refine Wp.go rfl ?_
  refine Wp.lt (fun h1 => ?_) (fun h1 => ?_)
  · refine Wp.go rfl ?_
    refine Wp.ret rfl ?_
    exact ⟨rv0 (by simp [h1]), rfl⟩
  · iterate 3 refine Wp.go rfl ?_
    refine Wp.gt (fun h2 => ?_) (fun h2 => ?_)
    · refine Wp.go rfl ?_
      refine Wp.ret rfl ?_
      exact ⟨rv0 (by simp [h2]), rfl⟩
    · iterate 2 refine Wp.go rfl ?_
      refine Wp.ret rfl ?_
      exact ⟨rv1 (by simp [h1, h2]), rfl⟩
theorem sX12_isIn_n {σ : mc_G} {v l m : Int32} {k a b : Nat} (hv : v = nI k) (hk : k < 2 ^ 31) (hl : l = nI a) (ha : a < 2 ^ 31) (hm : m = nI b) (hb : b < 2 ^ 31) : Wp miX12_isIn 0 [(0, .inl v), (1, .inl l), (2, .inl m)] [] σ (fun rv σ' => rv = some (.inl (bI (decide (a ≤ k ∧ k ≤ b)))) ∧ σ' = σ) := by
  refine sX12_isIn.mono (fun rv σ' h => ⟨?_, h.2⟩)
  rw [h.1, hv, hl, hm, show decide (¬ nI k < nI a ∧ ¬ nI b < nI k) = decide (a ≤ k ∧ k ≤ b) from decide_eq_decide.mpr (by rw [nI_ltI hk ha, nI_ltI hb hk]; omega)]
theorem sX12_isIn_g {σ : mc_G} {v l m : Int32} {a : Nat} (hv : v < 0) (hl : l = nI a) (ha : a < 2 ^ 31) : Wp miX12_isIn 0 [(0, .inl v), (1, .inl l), (2, .inl m)] [] σ (fun rv σ' => rv = some (.inl (bI false)) ∧ σ' = σ) := by
  refine sX12_isIn.mono (fun rv σ' h => ⟨?_, h.2⟩)
  rw [h.1, hl, show decide (¬ v < nI a ∧ ¬ m < v) = false from by simp [neg_lt hv ha]]
theorem sub_toInt {k c : Nat} (hk : k < 2 ^ 31) (hc : c < 2 ^ 31) : (nI k - nI c).toInt = (k : Int) - c := by
  rw [Int32.toInt_sub, nI_toInt hk, nI_toInt hc]
  apply Int.bmod_eq_of_le <;> omega
theorem sX12_isIn_d {σ : mc_G} {v l m : Int32} {k c b : Nat} (hv : v = nI k - nI c) (hk : k < 2 ^ 31) (hc : c < 2 ^ 31) (hl : l = nI 0) (hm : m = nI b) (hb : b < 2 ^ 31) : Wp miX12_isIn 0 [(0, .inl v), (1, .inl l), (2, .inl m)] [] σ (fun rv σ' => rv = some (.inl (bI (decide (c ≤ k) && decide (k ≤ c + b)))) ∧ σ' = σ) := by
  refine sX12_isIn.mono (fun rv σ' h => ⟨?_, h.2⟩)
  have e1 : (v < nI 0) ↔ k < c := by rw [Int32.lt_iff_toInt_lt, hv, sub_toInt hk hc, nI_toInt (by decide)]; omega
  have e2 : (nI b < v) ↔ c + b < k := by rw [Int32.lt_iff_toInt_lt, hv, sub_toInt hk hc, nI_toInt hb]; omega
  rw [h.1, hl, hm, show decide (¬ v < nI 0 ∧ ¬ nI b < v) = (decide (c ≤ k) && decide (k ≤ c + b)) from (decide_eq_decide.mpr (show _ ↔ (c ≤ k ∧ k ≤ c + b) by rw [e1, e2]; omega)).trans (Bool.decide_and _ _)]
theorem sX12_isIn_e {σ : mc_G} {v x l m : Int32} {c b : Nat} (hv : v = x - nI c) (hx : x < 0) (hc : c ≤ 200) (hl : l = nI 0) (hm : m = nI b) (hb : b < 1000) : Wp miX12_isIn 0 [(0, .inl v), (1, .inl l), (2, .inl m)] [] σ (fun rv σ' => rv = some (.inl (bI false)) ∧ σ' = σ) := by
  refine sX12_isIn.mono (fun rv σ' h => ⟨?_, h.2⟩)
  have e0 : (0 : Int32).toInt = 0 := rfl
  have h1 := Int32.lt_iff_toInt_lt.mp hx
  have h2 := Int32.le_toInt x
  have hvt : v.toInt = (x.toInt - c).bmod (2 ^ 32) := by rw [hv, Int32.toInt_sub, nI_toInt (by omega)]
  have hq : ¬ (¬ v < nI 0 ∧ ¬ nI b < v) := by
    rintro ⟨a1, a2⟩
    rw [Int32.lt_iff_toInt_lt, nI_toInt (by decide)] at a1
    rw [Int32.lt_iff_toInt_lt, nI_toInt (by omega)] at a2
    have h3 : v.toInt = x.toInt - c ∨ v.toInt = x.toInt - c + 2 ^ 32 := by
      rw [hvt]
      by_cases e : -(2 ^ 31 : Int) ≤ x.toInt - c
      · left; apply Int.bmod_eq_of_le <;> omega
      · right
        have : (x.toInt - c).bmod (2 ^ 32) = (x.toInt - c + 2 ^ 32).bmod (2 ^ 32) := by first | exact (Int.bmod_add_cancel).symm | exact (Int.add_bmod_right ..).symm | (simp only [Int.bmod]; omega)
        rw [this]
        apply Int.bmod_eq_of_le <;> omega
    simp at h2
    omega
  rw [h.1, hl, hm, decide_eq_false hq]

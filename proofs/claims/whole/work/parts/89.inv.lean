/-! what always holds goes on to hold -/
theorem vK_T {P : pT} {T T' : tT} (h : tc T ≤ tc T') {k : Nat} (hv : vK P T k) : vK P T' k := by
  rcases hv with q | q
  · refine Or.inl ?_
    simp [plK, rfK, thK] at q ⊢
    omega
  · exact Or.inr q
theorem vK_P {P P' : pT} {T : tT} (h : ∀ j, opA P j = 12 → opA P' j = 12) {k : Nat} (hv : vK P T k) : vK P' T k := by
  rcases hv with q | q | q | q
  · exact Or.inl q
  · exact Or.inr (Or.inl q)
  · exact Or.inr (Or.inr (Or.inl q))
  · exact Or.inr (Or.inr (Or.inr ⟨q.1, h _ q.2⟩))
theorem kOk_ty {K : kS} (hk : kOk K) {p : Nat} {f : Bool} (hb : tyB K.1 p f = true) (h8 : tc K.1 < 8) : kOk (kN (kT K (taA K.1 p f))) := by
  obtain ⟨h1, h2, h3, h4, h5, h6, h7, h9⟩ := hk
  unfold tyB at hb
  simp at hb
  have hT : tc K.1 ≤ tc (taA K.1 p f) := by show tc K.1 ≤ tc K.1 + 1; omega
  have ho : tOk (taA K.1 p f) := tOk_ta h1 hb.1 hb.2.1 (fun q => by rcases hb.2.2 with r | r; rw [q] at r; cases r; exact r) h8
  refine ⟨ho, h2, h3, h4, h5, ⟨fun k q => ⟨(h6.1 k q).1, Nat.lt_of_lt_of_le (h6.1 k q).2 hT⟩, fun j q => Nat.lt_of_lt_of_le (h6.2 j q) hT⟩, h7, h9.1, fun j hj => vK_T hT (h9.2.1 j hj), h9.2.2⟩
theorem kOk_B {K : kS} (hk : kOk K) {c : cS} (h1 : c.1 = 0) (h2 : gC K.2.1 K.1 c) : kOk (kN (kB K c)) := ⟨hk.1, hk.2.1, hk.2.2.1, hk.2.2.2.1, hk.2.2.2.2.1, hk.2.2.2.2.2.1, h1, h2⟩
theorem kOk_lc {K : kS} (hk : kOk K) (u v : Option Nat) : kOk (lcR K u v).2 ∧ ((lcR K u v).2 = K ∨ (lcR K u v).2.2.2.2.2.2.2.1 = false) := by
  have h7 := hk.2.2.2.2.2.2.1
  have h9 := hk.2.2.2.2.2.2.2
  rcases u with _ | p <;> rcases v with _ | q
  · exact ⟨hk, Or.inl rfl⟩
  · exact ⟨hk, Or.inl rfl⟩
  · exact ⟨hk, Or.inl rfl⟩
  · by_cases c : p < 7 ∧ q = 2
    · have e1 : lcR K (some p) (some q) = (1, kN (kB K (slA K.2.2.1 p))) := if_pos c
      rw [e1]
      have a1 : (slA K.2.2.1 p).1 = 0 := by rw [slA_1]; exact h7
      have a2 := gC_sl h9 c.1
      generalize slA K.2.2.1 p = e at a1 a2 ⊢
      exact ⟨kOk_B hk a1 a2, Or.inr rfl⟩
    · by_cases d : p < 8 ∧ plK K.1 q = true
      · have e1 : lcR K (some p) (some q) = (1, kN (kB K (soA K.2.2.1 p q))) := by show (if _ then _ else _) = _; rw [if_neg c, if_pos d]
        rw [e1]
        have hq : q ≠ 2 ∧ q ≠ 3 := by have := d.2; have := hk.1.2.1; simp [plK, rfK, thK] at *; omega
        have a1 : (soA K.2.2.1 p q).1 = 0 := by rw [soA_1]; exact h7
        have a2 := gC_so h9 d.1 (Or.inl d.2) hq.1 hq.2
        generalize soA K.2.2.1 p q = e at a1 a2 ⊢
        exact ⟨kOk_B hk a1 a2, Or.inr rfl⟩
      · have e1 : lcR K (some p) (some q) = (-2, K) := by show (if _ then _ else _) = _; rw [if_neg c, if_neg d]
        rw [e1]; exact ⟨hk, Or.inl rfl⟩
theorem opA_O {P : pT} {o : Nat} {y : Int32} {k : Nat} : opA (paO P o y) k = if k = pn P then o else opA P k := by
  unfold opA
  show (if k < pn P + 1 then va_up (po P) (pn P) o k else 19) = _
  by_cases e : k = pn P
  · rw [if_pos (by omega), if_pos e]; exact if_pos e
  · rw [if_neg e]
    by_cases h : k < pn P
    · rw [if_pos (by omega), if_pos h]; exact if_neg e
    · rw [if_neg (by omega), if_neg h]
theorem nuA_O {P : pT} {o : Nat} {y : Int32} {k : Nat} : nuA (paO P o y) k = if k = pn P then y else nuA P k := by
  unfold nuA
  show (if k < pn P + 1 then va_up (pa P) (pn P) y k else 0) = _
  by_cases e : k = pn P
  · rw [if_pos (by omega), if_pos e]; exact if_pos e
  · rw [if_neg e]
    by_cases h : k < pn P
    · rw [if_pos (by omega), if_pos h]; exact if_neg e
    · rw [if_neg (by omega), if_neg h]
theorem nuN_O {P : pT} {o : Nat} {y : Int32} {k : Nat} : nuN (paO P o y) k = if k = pn P then y.toNatClampNeg else nuN P k := by
  unfold nuN; rw [nuA_O]; split <;> rfl
theorem nf_in {T : tT} {o n : Nat} {v : Option Nat} {y : Int32} (hv : oV y v) (h : inU n v = true) : y = nI y.toNatClampNeg ∧ y.toNatClampNeg < n := by
  rcases v with _ | k
  · cases h
  · have hk : k < n := of_decide_eq_true h
    have hc : y.toNatClampNeg = k := clE hv.1 hv.2
    rw [hc]; exact ⟨hv.1, hk⟩
theorem nf_20 {T : tT} {o : Nat} {v : Option Nat} (h : nfA T o v = true) : o ≤ 20 := by
  unfold nfA at h
  split at h
  · omega
  · split at h
    · omega
    · split at h
      · omega
      · split at h
        · omega
        · split at h
          · omega
          · exact of_decide_eq_true h
theorem kOk_op {K : kS} (hk : kOk K) {o : Nat} {y : Int32} {v : Option Nat} (hv : oV y v) (hf : nfA K.1 o v = true) (hn : pn K.2.1 < 30) : kOk (kN (kP K (paO K.2.1 o y))) := by
  obtain ⟨h1, h2, h3, h4, h5, h6, h7, h9⟩ := hk
  have h20 := nf_20 hf
  have hor : ∀ k, (opA (paO K.2.1 o y) k = o ∧ nuA (paO K.2.1 o y) k = y ∧ nuN (paO K.2.1 o y) k = y.toNatClampNeg) ∨ (opA (paO K.2.1 o y) k = opA K.2.1 k ∧ nuA (paO K.2.1 o y) k = nuA K.2.1 k ∧ nuN (paO K.2.1 o y) k = nuN K.2.1 k) := by
    intro k
    rw [opA_O, nuA_O, nuN_O]
    by_cases e : k = pn K.2.1
    · exact Or.inl ⟨if_pos e, if_pos e, if_pos e⟩
    · exact Or.inr ⟨if_neg e, if_neg e, if_neg e⟩
  have hju : ∀ k, juA (paO K.2.1 o y) k = (decide (16 ≤ opA (paO K.2.1 o y) k) && decide (opA (paO K.2.1 o y) k ≤ 18)) := fun _ => rfl
  have h8 := h1.2.1
  unfold nfA at hf
  refine ⟨h1, ⟨by show pn K.2.1 + 1 ≤ 30; omega, h2.2⟩, fun k hk => ?_, h4, ⟨fun k q => ?_, fun k q => ?_, fun k q => ?_⟩, ⟨fun k q => ?_, h6.2⟩, h7, h9.1, fun j hj => vK_P (fun i q => ?_) (h9.2.1 j hj), h9.2.2⟩
  · have hk : k < pn K.2.1 + 1 := hk
    show va_up (po K.2.1) (pn K.2.1) o k ≤ 20
    unfold va_up; split
    · exact h20
    · exact h3 k (by omega)
  · have q : opA (paO K.2.1 o y) k = 3 ∨ opA (paO K.2.1 o y) k = 4 ∨ opA (paO K.2.1 o y) k = 5 ∨ opA (paO K.2.1 o y) k = 6 ∨ opA (paO K.2.1 o y) k = 14 ∨ opA (paO K.2.1 o y) k = 15 := q
    show nuA (paO K.2.1 o y) k = nI (nuN (paO K.2.1 o y) k) ∧ nuN (paO K.2.1 o y) k < 8
    rcases hor k with ⟨a1, a2, a3⟩ | ⟨a1, a2, a3⟩
    · rw [a1] at q; rw [a2, a3]
      by_cases c1 : o = 3 ∨ o = 5
      · rw [if_pos c1] at hf; exact nf_in (T := K.1) (o := o) hv hf
      · rw [if_neg c1] at hf
        by_cases c2 : o = 4 ∨ o = 6
        · rw [if_pos c2] at hf
          have := nf_in (T := K.1) (o := o) hv hf
          exact ⟨this.1, by omega⟩
        · rw [if_neg c2, if_neg (by omega), if_pos (by omega)] at hf
          have := nf_in (T := K.1) (o := o) hv hf
          exact ⟨this.1, by omega⟩
    · rw [a1] at q; rw [a2, a3]; exact h5.1 k q
  · have q : opA (paO K.2.1 o y) k = 4 ∨ opA (paO K.2.1 o y) k = 6 := q
    show nuN (paO K.2.1 o y) k < 7
    rcases hor k with ⟨a1, a2, a3⟩ | ⟨a1, a2, a3⟩
    · rw [a1] at q; rw [a3]
      rw [if_neg (by omega), if_pos q] at hf
      exact (nf_in (T := K.1) (o := o) hv hf).2
    · rw [a1] at q; rw [a3]; exact h5.2.1 k q
  · have q : juA (paO K.2.1 o y) k = true := q
    show nuA (paO K.2.1 o y) k = nI (nuN (paO K.2.1 o y) k) ∧ nuN (paO K.2.1 o y) k < 30
    rw [hju] at q
    rcases hor k with ⟨a1, a2, a3⟩ | ⟨a1, a2, a3⟩
    · rw [a1] at q; rw [a2, a3]
      simp at q
      rw [if_neg (by omega), if_neg (by omega), if_neg (by omega), if_neg (by omega), if_pos (by omega)] at hf
      exact nf_in (T := K.1) (o := o) hv hf
    · rw [a1] at q; rw [a2, a3]; exact h5.2.2 k q
  · have q : opA (paO K.2.1 o y) k = 12 ∨ opA (paO K.2.1 o y) k = 14 ∨ opA (paO K.2.1 o y) k = 15 := q
    show nuA (paO K.2.1 o y) k = nI (nuN (paO K.2.1 o y) k) ∧ nuN (paO K.2.1 o y) k < tc K.1
    rcases hor k with ⟨a1, a2, a3⟩ | ⟨a1, a2, a3⟩
    · rw [a1] at q; rw [a2, a3]
      rw [if_neg (by omega), if_neg (by omega)] at hf
      by_cases c : o = 12
      · rw [if_pos c] at hf
        refine nf_in (T := K.1) (o := o) (v := v) hv ?_
        rcases v with _ | k
        · cases hf
        · have hf : (decide (k < tc K.1) && !tf K.1 k) = true := hf
          rw [Bool.and_eq_true] at hf
          exact hf.1
      · rw [if_neg c, if_pos (by omega)] at hf
        exact nf_in (T := K.1) (o := o) hv hf
    · rw [a1] at q; rw [a2, a3]; exact h6.1 k q
  · show opA (paO K.2.1 o y) i = 12
    rw [opA_O, if_neg (by have := op_lt q; omega)]; exact q
theorem kOk_hd {K : kS} (hk : kOk K) {f t a k : Nat} (hc : (f < t ∧ t ≤ 30) ∧ a < 30 ∧ k < tc K.1) (hn : qn K.2.1 < 4) : kOk (kN (kP K (paH K.2.1 f t a k))) := by
  obtain ⟨h1, h2, h3, h4, h5, h6, h7, h9⟩ := hk
  have h8 := h1.2.1
  refine ⟨h1, ⟨h2.1, by show qn K.2.1 + 1 ≤ 4; omega⟩, h3, fun j hj => ?_, h5, ⟨h6.1, fun j hj => ?_⟩, h7, h9⟩
  · have hj : j < qn K.2.1 + 1 := hj
    show va_up (qf K.2.1) (qn K.2.1) f j < va_up (qt K.2.1) (qn K.2.1) t j ∧ va_up (qt K.2.1) (qn K.2.1) t j ≤ 30 ∧ va_up (qa K.2.1) (qn K.2.1) a j < 30 ∧ va_up (qk K.2.1) (qn K.2.1) k j < 8
    unfold va_up
    by_cases e : j = qn K.2.1
    · simp only [if_pos e]; omega
    · simp only [if_neg e]; exact h4 j (by omega)
  · have hj : j < qn K.2.1 + 1 := hj
    show va_up (qk K.2.1) (qn K.2.1) k j < tc K.1
    unfold va_up
    by_cases e : j = qn K.2.1
    · rw [if_pos e]; exact hc.2.2
    · rw [if_neg e]; exact h6.2 j (by omega)
theorem kMd_f {K : kS} (h : K.2.2.2.2.2.2.1 = false) : kMd K := fun q => by rw [h] at q; cases q
/-- what both hold, and what holds of it -/
def pIn (K : kS) (σ : mc_G) : Prop := cCls K σ ∧ cMod K σ ∧ kOk K ∧ kMd K
theorem cCls.rm {K : kS} {σ σ' : mc_G} (h : cCls K σ) (o : ofR 167 186 σ σ') : cCls K σ' :=
  ⟨h.1.r o (by decide), h.2.1.r o (by decide), h.2.2.1.r o (by decide), ⟨_, h.2.2.2.1.choose_spec.r o (by decide)⟩, h.2.2.2.2.1.r o (by decide), h.2.2.2.2.2.1.r o (by decide), h.2.2.2.2.2.2.1.r o (by decide), ⟨_, h.2.2.2.2.2.2.2.1.choose_spec.r o (by decide)⟩, by rw [o 0 (by decide)]; exact h.2.2.2.2.2.2.2.2.1, by rw [o 0 (by decide)]; exact h.2.2.2.2.2.2.2.2.2.1, h.2.2.2.2.2.2.2.2.2.2.r o (by decide)⟩
theorem cMod.rc {K : kS} {σ σ' : mc_G} (h : cMod K σ) (o : ofR 0 166 σ σ') : cMod K σ' := by
  have e : ∀ b, 167 ≤ b → σ' b = σ b := fun b hb => o b (by omega)
  unfold cMod cMT cMP cMB mMade
  rw [e 167 (by decide), e 168 (by decide), e 169 (by decide), e 170 (by decide), e 171 (by decide), e 172 (by decide), e 173 (by decide), e 174 (by decide), e 175 (by decide), e 176 (by decide), e 177 (by decide), e 179 (by decide), e 180 (by decide), e 182 (by decide), e 183 (by decide), e 184 (by decide)]
  exact h

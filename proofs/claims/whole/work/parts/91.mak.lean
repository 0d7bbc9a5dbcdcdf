/-! make -/
theorem ks_ok {K : kS} (hk : kOk K) (hl : (lfM K.2.1).1 = 0) : sJ K.2.1 K.1 (hhF K.2.1) (rcF K.2.1) K.2.2.1 (kS1 K) ∧ ∀ k, (kS1 K).2.1 k = true → EdF K.2.1 K.1 ((kS1 K).1 k) (kS1 K) k := by
  have hG := hk.g
  have hH := pH_ok hG.2.1.1 hl
  have h0 := sJ_0 hG hH hk.2.2.2.2.2.2.1 hk.2.2.2.2.2.2.2 (S := s0A K.2.2.2.1) (fun _ => rfl) (fun _ => rfl)
  have h1 := sw_ok hG hH 100000 _ h0.1 (fun q => by rw [h0.2] at q; cases q) (by have := mu_b h0.1.1.1; omega)
  have e : swA K.2.1 K.1 100000 (mtA K.1 (pn K.2.1) (s0A K.2.2.2.1) 0 K.2.2.1) = kS1 K := rfl
  rw [e] at h1
  exact ⟨h1.1, fun k q => h1.1.2.1 k q (h1.2 k)⟩
theorem rc_k {K : kS} (hk : kOk K) (hl : (lfM K.2.1).1 = 0) (k : Nat) : rcF K.2.1 k = (kS1 K).2.1 k := by
  have h := ks_ok hk hl
  have ha := all_of (B := K.2.2.1) hk.2.1.1 hl h.1.2.2.1.1 h.2
  cases x : rcF K.2.1 k <;> cases y : (kS1 K).2.1 k
  · rfl
  · rw [(h.1.1.1 k y).1] at x; cases x
  · rw [ha k x] at y; cases y
  · rfl
theorem hz_k {K : kS} (hk : kOk K) (hl : (lfM K.2.1).1 = 0) (k : Nat) : decide (¬ (mZA K.2.1).1 k = 0) = (kS1 K).2.1 k := by
  rw [← rc_k hk hl]
  have h0 := (lf_00 hk.2.1.1 hl).1
  have hz := (mz_ok hk.2.1.1 h0).1
  unfold rcF
  by_cases e : k < pn K.2.1
  · rw [decide_eq_true e, Bool.true_and]
  · rw [decide_eq_false e, Bool.false_and, hz.2.2.2.2.1 k e]
    rfl
theorem iF_k {K : kS} (hk : kOk K) (hl : (lfM K.2.1).1 = 0) : (∀ j, j < pn K.2.1 → ((mZA K.2.1).1 j = 0 ↔ hN (kS1 K) j = 0)) ∧ (∀ j, iFA K.2.1 (hN (kS1 K)) j = true → (kS1 K).2.1 j = true) := by
  refine ⟨fun j _ => ?_, fun j q => ?_⟩
  · have := hz_k hk hl j
    unfold hN
    by_cases e : (kS1 K).2.1 j = true
    · rw [if_pos e]; rw [e] at this
      have := of_decide_eq_true this
      exact ⟨fun r => absurd r this, fun r => by cases r⟩
    · rw [if_neg e]; simp at e; rw [e] at this
      have := of_decide_eq_false this
      exact ⟨fun _ => rfl, fun _ => Classical.byContradiction this⟩
  · obtain ⟨k, h1, h2, h3⟩ := iFA_iff.mp q
    have hr : (kS1 K).2.1 k = true := by
      unfold hN at h2
      by_cases e : (kS1 K).2.1 k = true
      · exact e
      · rw [if_neg e] at h2; exact absurd rfl h2
    have he := (ks_ok hk hl).2 k hr
    rcases h3 with ⟨a, b⟩ | ⟨t, -, a, b⟩
    · rw [← b]; exact (he.2.1 a).1
    · rw [← b]; exact (he.2.2 t a).1
theorem fm_k {K : kS} (hk : kOk K) (hl : (lfM K.2.1).1 = 0) : (kF1 K).2.2.2.2 = (foR (frS K.2.1 (mZA K.2.1).1 (kS1 K)) (pn K.2.1) 0 (y0A K.2.2.1)).1.2 ∧ (∀ k, k < (kF1 K).2.2.2.2 → (kF1 K).1 k = (foR (frS K.2.1 (mZA K.2.1).1 (kS1 K)) (pn K.2.1) 0 (y0A K.2.2.1)).1.1 k) ∧ eqv (kX1 K).1 (foR (frS K.2.1 (mZA K.2.1).1 (kS1 K)) (pn K.2.1) 0 (y0A K.2.2.1)).2.1.1 ∧ (kX1 K).1.1 ≤ 960 := by
  have hi := iF_k hk hl
  unfold kX1 kF1
  exact fm_eq (F := K.2.2.2.2.1) (X := K.2.2.2.2.2.1) (c := K.2.2.1) hk.2.1.1 hi.1 hi.2
theorem fi_k {K : kS} (hk : kOk K) (hl : (lfM K.2.1).1 = 0) : FI (kS1 K) (fun j => decide (j < pn K.2.1) && iFA K.2.1 (hN (kS1 K)) j) 30 (kF1 K) := by
  unfold kF1
  exact (ga_ok (F := K.2.2.2.2.1) (iF_k hk hl).2).1
theorem kOk_set {K : kS} {S : sS} {F : fS} {X : xS} {m : Bool} {f : Nat} (hk : kOk K) : kOk (kSet K S F X m f) := hk
theorem kMd_set {K : kS} {S : sS} {F : fS} {X : xS} (h : (∃ (h : Nat → Nat) (rc : Nat → Bool), pH K.2.1 h rc ∧ (∀ i, rc i = S.2.1 i) ∧ nOk K.2.1 K.1 h rc S) ∧ F.2.2.2.2 ≤ 30 ∧ (∀ k, k < F.2.2.2.2 → F.1 k < pn K.2.1 ∧ S.2.1 (F.1 k) = true ∧ gC K.2.1 K.1 (F.2.2.2.1 k) ∧ (F.2.2.2.1 k).1 = (S.1 (F.1 k)).1 ∧ F.2.1 (F.1 k) = nI k) ∧ (∀ j, ¬ F.2.1 j = -1 → ∃ k, k < F.2.2.2.2 ∧ F.1 k = j) ∧ (∀ j, j < pn K.2.1 → (iFA K.2.1 (hN S) j = true ↔ ¬ F.2.1 j = -1)) ∧ X.1.1 ≤ 960) : kMd (kSet K S F X true 0) := fun _ => h
theorem cM_set {K : kS} {S : sS} {F : fS} {X : xS} {σ : mc_G} (m1 : cMT K.1 σ) (m2 : cMP K.2.1 σ) (m3 : cMB K.2.2.1 σ) (m4 : σ 167 13 = bI true) (m5 : σ 167 14 = nI 0) (h : (∃ H : Nat → Nat, ∀ i, i < 30 → σ 177 i = nI (H i) ∧ H i < 128 ∧ decide (¬ H i = 0) = S.2.1 i ∧ (S.2.1 i = true → hiO (H i) = (S.1 i).1)) ∧ (∀ i, i < 30 → σ 180 i = bI (S.2.1 i) ∧ (S.2.1 i = true → ∀ k, k < 8 + (S.1 i).1 → σ 179 (14 * i + k) = nI ((S.1 i).2 k))) ∧ (σ 167 21 = nI F.2.2.2.2 ∧ ∀ k, k < F.2.2.2.2 → σ 182 k = nI (F.1 k) ∧ ∀ p, p < 8 + (F.2.2.2.1 k).1 → σ 183 (14 * F.1 k + p) = nI ((F.2.2.2.1 k).2 p)) ∧ (σ 167 24 = nI X.1.1 ∧ ∀ j, j < X.1.1 → σ 184 j = nI (X.1.2 j))) : cMod (kSet K S F X true 0) σ := ⟨m1, m2, m3, m4, m5, fun _ => h⟩
theorem cM_set4 {K : kS} {S : sS} {F : fS} {X : xS} {σ : mc_G} (h : cMod (kM K false 4) σ) : cMod (kSet K S F X false 4) σ := ⟨h.1, h.2.1, h.2.2.1, h.2.2.2.1, h.2.2.2.2.1, fun r => by cases r⟩
theorem md_k {K : kS} (hk : kOk K) (hl : (lfM K.2.1).1 = 0) : kOk (kSet K (kS1 K) (kF1 K) (kX1 K) true 0) ∧ kMd (kSet K (kS1 K) (kF1 K) (kX1 K) true 0) := by
  have hG := hk.g
  have hH := pH_ok hG.2.1.1 hl
  have h := ks_ok hk hl
  have hi := iF_k hk hl
  have hF := fi_k hk hl
  have hX4 := (fm_k hk hl).2.2.2
  have hn := hG.2.1.1
  refine ⟨kOk_set hk, kMd_set ?_⟩
  generalize kF1 K = F at *
  obtain ⟨f1, f2, f3, f4, f5⟩ := hF
  refine ⟨⟨hhF K.2.1, rcF K.2.1, hH, rc_k hk hl, h.1.1.1⟩, f1, fun k q => ?_, f3, fun j hj => ⟨fun q => f4 j (by omega) (by simp [hj, q]), fun q => ?_⟩, hX4⟩
  · obtain ⟨a1, a2, a3, a4⟩ := f2 k q
    simp only [Bool.and_eq_true, decide_eq_true_eq] at a2
    have hr := hi.2 _ a2.2
    exact ⟨a2.1, hr, by rw [a4]; exact (h.1.1.1 _ hr).2.2, by rw [a4], a3⟩
  · obtain ⟨k, b1, b2⟩ := f3 j q
    have := (f2 k b1).2.1
    simp only [Bool.and_eq_true, decide_eq_true_eq] at this
    rw [← b2]; exact this.2
theorem cM_k {K : kS} (hk : kOk K) (hl : (lfM K.2.1).1 = 0) {σ : mc_G} (hM : mM1 K (mZA K.2.1).1 (kS1 K) (foR (frS K.2.1 (mZA K.2.1).1 (kS1 K)) (pn K.2.1) 0 (y0A K.2.2.1)) σ) : cMod (kSet K (kS1 K) (kF1 K) (kX1 K) true 0) σ := by
  have hG := hk.g
  have hn := hG.2.1.1
  have h := ks_ok hk hl
  have hi := iF_k hk hl
  have hF := fi_k hk hl
  obtain ⟨hX1, hX2, hX3, -⟩ := fm_k hk hl
  generalize foR (frS K.2.1 (mZA K.2.1).1 (kS1 K)) (pn K.2.1) 0 (y0A K.2.2.1) = Y at *
  obtain ⟨m1, m2, m3, m4, m5, m6, m7, m8, m9⟩ := hM
  refine cM_set m1 m2 m3 m4 m5 ?_
  generalize kF1 K = F at *
  generalize (kX1 K).1 = W at *
  obtain ⟨f1, f2, f3, f4, f5⟩ := hF
  refine ⟨⟨(mZA K.2.1).1, fun i hi' => ⟨(m6 i hi').1, (m6 i hi').2, hz_k hk hl i, fun q => ?_⟩⟩, fun i hi' => ⟨(m7 i hi').1, fun q k hk' => (((m7 i hi').2 q).2 k hk').1⟩, ⟨by rw [hX1]; exact m8.1.1, fun k q => ⟨?_, fun p hp => ?_⟩⟩, ⟨by rw [hX3.1]; exact m8.2.1.1, fun j hj => ?_⟩⟩
  · exact (h.1.1.1 i q).2.1.symm
  · rw [hX2 k q]; exact m8.1.2.2 k (by rw [← hX1]; exact q)
  · obtain ⟨a1, a2, a3, a4⟩ := f2 k q
    simp only [Bool.and_eq_true, decide_eq_true_eq] at a2
    have hr := hi.2 _ a2.2
    rw [a4] at hp ⊢
    exact (m9 _ (by omega) hr p hp).1
  · rw [hX3.2 j hj]; exact m8.2.1.2.2 j (by rw [← hX3.1]; exact hj)
set_option maxRecDepth 100000 in
theorem pa_make {K : kS} {σ : mc_G} (hp : pIn K σ) : PairG miX11_make miX12_make [(0, .inr (some 0))] [(0, .inr (some 167))] σ := by
  obtain ⟨hc, hm, hk, hd⟩ := hp
  have hG := hk.g
  have hn := hG.2.1.1
  by_cases hl : (lfM K.2.1).1 = 0
  · have hH := pH_ok hn hl
    have h := ks_ok hk hl
    have hi := iF_k hk hl
    have h00 := lf_00 hn hl
    have h0 := sJ_0 hG hH hk.2.2.2.2.2.2.1 hk.2.2.2.2.2.2.2 (S := s0A K.2.2.2.1) (fun _ => rfl) (fun _ => rfl)
    have hF := fi_k hk hl
    have cl := sX11_make_s hc hk h00.2.2 (J := sJ K.2.1 K.1 (hhF K.2.1) (rcF K.2.1) K.2.2.1) (fun S k hS _ hw => by
        obtain ⟨a1, a2, a3⟩ := hS.1.1 k (hS.2.2.2 k hw)
        have b := hH.2.2 k a1
        refine ⟨by rw [a2]; exact b.2.1, by rw [a2]; exact b.2.2.1, fun ho hs => ?_⟩
        have := gC_13 hG.2.2.2.2.2 hG.1 a3 ho hs
        have h8 := hG.1.2.1
        exact ⟨this.1, by omega, this.2.2.1⟩) (fun S k hS _ hw => (hS.sv hG hH hw).1) (fun S hS => hS) h0.1 (fun _ k q => (hF.2.1 k q).1) (fun _ k q => hF.2.2.2.2 k q)
    have mo : ∀ σ1, cMod K σ1 → _ := fun σ1 hm1 => sX12_make_s hm1 hk hl hH (H := (mZA K.2.1).1) rfl (fun i _ => rfl) (I := sM K.2.1 K.1 (hhF K.2.1) (rcF K.2.1) K.2.2.1) (fun S hS => hS.1.1) (fun S i hS _ hr => by
        have := br_ok hG hH hS.1 hr
        exact ⟨this.2.1, (this.1.1 0 hS.2.1).1, cle_t hG.1 hS.2.2 (this.1.1 0 hS.2.1).2⟩) (fun S hS => hS) (μ := muS) (fun S hS q => (rb_ok hG hH hS).2.1 q) (sM_0 hG hH hk.2.2.2.2.2.2.1 hk.2.2.2.2.2.2.2) (S := kS1 K) h.1.1.1 (fun S1 h1 h2 h3 => fin_eq hG hl h2.1 h.1.1 ((rb_ok hG hH h1).2.2 h3) h.2 h2.2 h.1.2.2.1) (fun i hi1 q => hi.2 i (by rw [← iFA_cg hi.1]; exact q))
    by_cases hf : fuF K.2.1 K.1 (kS1 K) (pn K.2.1) 0 = -1
    · have hX1 := (fm_k hk hl).1
      refine pairB ⟨hc, hm, hk, hd⟩ (md_k hk hl) (r := nI (kF1 K).2.2.2.2) (cl.mono (fun rv σ' q => ?_)) (fun σ1 hm1 => (mo σ1 hm1).mono (fun rv σ' q => ?_))
      · rw [if_pos hf] at q; exact q
      · rw [if_pos hf] at q
        exact ⟨by rw [q.1, hX1], cM_k hk hl q.2.1, q.2.2⟩
    · refine pairB ⟨hc, hm, hk, hd⟩ (K' := kSet K (kS1 K) K.2.2.2.2.1 K.2.2.2.2.2.1 false 4) ⟨kOk_set hk, kMd_f rfl⟩ (r := -10 - fuF K.2.1 K.1 (kS1 K) (pn K.2.1) 0) (cl.mono (fun rv σ' q => ?_)) (fun σ1 hm1 => (mo σ1 hm1).mono (fun rv σ' q => ?_))
      · rw [if_neg hf] at q; exact q
      · rw [if_neg hf] at q
        exact ⟨q.1, cM_set4 q.2.1, q.2.2⟩
  · exact pairB ⟨hc, hm, hk, hd⟩ (K' := kM K false (lfM K.2.1).1) ⟨hk, kMd_f rfl⟩ (sX11_make_f hc hk (fun g => lf_f hn hl g) (lfM_5 _) hl) (fun σ1 hm1 => sX12_make_f hm1 hk hl)

/-! the reference's FRAMES -/
abbrev yS : Type := ((Nat → Nat) × Nat) × (wS × eS) × Nat
def frS (P : pT) (H : Nat → Nat) (S : sS) (Y : yS) (i : Nat) : yS := if iFA P H i = true then ((va_up Y.1.1 Y.1.2 i, Y.1.2 + 1), (waL Y.2.1.1 (w1A Y.2.1.2 (tlA (S.1 i) e0A) (tqA (S.1 i) e0A) (i - Y.2.2)), tlA (S.1 i) e0A), i + 1) else Y
def y0A (c : cS) : yS := ((fun _ => 0, 0), ((0, fun _ => 0), tlA c e0A), 0)
def mFr (F : (Nat → Nat) × Nat) (σ : mc_G) : Prop := σ 167 21 = nI F.2 ∧ F.2 ≤ 30 ∧ ∀ k, k < F.2 → σ 182 k = nI (F.1 k)
theorem mFr.o {F : (Nat → Nat) × Nat} {σ σ' : mc_G} {cs fs : List Nat} (k : mFr F σ) (o : mo cs fs σ σ') (h1 : ¬ 182 ∈ cs := by decide) (h2 : ¬ 21 ∈ fs := by decide) : mFr F σ' := by
  unfold mFr; rw [o.1 182 (by decide) h1, o.2 21 h2]; exact k
theorem mFr.s {F : (Nat → Nat) × Nat} {σ : mc_G} {q : Nat} {p v : Int32} (h : mFr F σ) (h3 : F.2 < 30) (hp : p = nI F.2) (hv : v = nI q) : mFr (va_up F.1 F.2 q, F.2 + 1) (mc_up (mc_up σ 182 p.toNatClampNeg v) 167 21 (σ 167 21 + 1)) := by
  refine ⟨?_, h3, fun j hj => ?_⟩
  · rw [upj, if_pos rfl]; exact nE_add h.1 (rfl : _ = nI 1)
  · have hj' : j < F.2 + 1 := hj
    rw [mc_upn _ _ _ (by decide), clE hp (by omega), upj]
    show (if j = F.2 then v else σ 182 j) = nI (va_up F.1 F.2 q j)
    unfold va_up
    by_cases e : j = F.2
    · rw [if_pos e, if_pos e]; exact hv
    · rw [if_neg e, if_neg e]; exact h.2.2 j (by omega)
theorem w1_len {B L Q : eS} {δ : Nat} (hl : L.1 ≤ 8) (hq : Q.1 ≤ 6) : (w1A B L Q δ).length ≤ 32 := by
  have h1 := en_l Q 0
  have h2 := en_l L 0
  have h3 := en_l L B.1
  unfold w1A
  split
  · simp
  · split
    · simp; omega
    · split
      · simp; omega
      · simp; omega
def MF (σ σ' : mc_G) : Prop := mo [182, 183, 184, 185, 186] [21, 24, 27, 29] σ σ'
def frI (Y : yS) (i : Nat) (σ : mc_G) : Prop := mFr Y.1 σ ∧ mBy Y.2.1.1 σ ∧ mBe Y.2.1.2 σ ∧ Y.1.2 ≤ i ∧ Y.2.1.1.1 ≤ 32 * Y.1.2 ∧ Y.2.2 ≤ i
set_option maxRecDepth 100000 in
theorem lX12_fr {P : pT} {T : tT} (hG : pG P T) {H : Nat → Nat} {S : sS} {σ0 : mc_G} (hP : cMP P σ0) (hH : mH7 H σ0) (hS : mSt S σ0) (hh : ∀ i, i < 30 → S.2.1 i = true → hiO (H i) = (S.1 i).1) (hFk : ∀ i, i < pn P → iFA P H i = true → S.2.1 i = true) {Φ : Option mc_V → mc_G → Prop} : ∀ (n i : Nat) (y z : Int32) (Y : yS) (σ : mc_G), z = nI i → i + n = pn P → y = nI Y.2.2 - 1 → frI Y i σ → (∀ a, a < 30 → S.2.1 a = true → ∀ j, j < 8 + (S.1 a).1 → σ 183 (14 * a + j) = nI ((S.1 a).2 j) ∧ (S.1 a).2 j < 300) → MF σ0 σ → (∀ (σ2 : mc_G), frI (foR (frS P H S) n i Y) (pn P) σ2 → MF σ0 σ2 → σ2 183 = σ 183 → Φ none σ2) → Wp miX12_frame 54 [(0, .inr (some 167)), (1, .inl (y)), (2, .inl z)] [] σ Φ := by
  have hn30 := hG.2.1.1
  intro n
  induction n with
  | zero =>
    intro i y z Y σ hz hi hy hY hR ho kk
    have ho : mo [182, 183, 184, 185, 186] [21, 24, 27, 29] σ0 σ := ho
    iterate 4 refine Wp.go rfl ?_
    refine Wp.geN (a := i) (b := pn P) hz (hP.o ho).1 (by omega) (by omega) (fun (h1 : ¬ i < pn P) => ?_) (fun (h1 : i < pn P) => by omega)
    refine Wp.ret rfl ?_
    have e1 : i = pn P := by omega
    rw [e1] at hY
    exact kk σ hY ho rfl
  | succ n ih =>
    intro i y z Y σ hz hi hy hY hR ho kk
    have ho : mo [182, 183, 184, 185, 186] [21, 24, 27, 29] σ0 σ := ho
    iterate 4 refine Wp.go rfl ?_
    refine Wp.geN (a := i) (b := pn P) hz (hP.o ho).1 (by omega) (by omega) (fun (h1 : ¬ i < pn P) => ?_) (fun (h1 : i < pn P) => ?_)
    · refine Wp.ret rfl ?_
      exfalso; omega
    · iterate 2 refine Wp.go rfl ?_
      refine Wp.call rfl cqX12_isFrame (sX12_isFrame hG.2.1 hG.2.2.2.1 hG.2.2.2.2.1 hG.2.2.1 (hP.o ho) (hH.o ho) (by omega) hz) (fun rv1 s1 hq1 => ?_)
      obtain ⟨rfl, hq1⟩ := hq1
      replace hq1 := hq1.symm
      subst hq1
      refine Wp.go rfl ?_
      refine Wp.beqE rfl (fun (h2 : (iFA P H i) = false) => ?_) (fun (h2 : (iFA P H i) = true) => ?_)
      · iterate 2 refine Wp.go rfl ?_
        have e1 : frS P H S Y i = Y := by unfold frS; rw [if_neg (by rw [h2]; decide)]
        refine Wp.lo (lo := [(0, .inr (some 167)), (1, .inl _), (2, .inl _)]) ⟨rfl, rfl, rfl, trivial⟩ ?_
        have kk : ∀ (σ2 : mc_G), frI (foR (frS P H S) n (i + 1) (frS P H S Y i)) (pn P) σ2 → MF σ0 σ2 → σ2 183 = σ 183 → Φ none σ2 := kk
        rw [e1] at kk
        exact ih (i + 1) _ _ Y σ (nE_add hz (rfl : _ = nI 1)) (by omega) hy ⟨hY.1, hY.2.1, hY.2.2.1, by have := hY.2.2.2.1; omega, hY.2.2.2.2.1, by have := hY.2.2.2.2.2; omega⟩ hR ho kk
      · have hk := hFk i (by omega) h2
        have hr := (hS i (by omega)).2 hk
        obtain ⟨hfr, hby, hbe, hY1, hY2, hY3⟩ := hY
        have hY : frI Y i σ := ⟨hfr, hby, hbe, hY1, hY2, hY3⟩
        have e1 : frS P H S Y i = ((va_up Y.1.1 Y.1.2 i, Y.1.2 + 1), (waL Y.2.1.1 (w1A Y.2.1.2 (tlA (S.1 i) e0A) (tqA (S.1 i) e0A) (i - Y.2.2)), tlA (S.1 i) e0A), i + 1) := by unfold frS; rw [if_pos h2]
        iterate 5 refine Wp.go rfl ?_
        refine Wp.go (if_pos ⟨(show 182 < 187 by decide), rfl, (inE (n := 30) hY.1.1 (by omega))⟩) ?_
        iterate 5 refine Wp.go rfl ?_
        refine Wp.go rfl ?_
        have hfr2 := hfr.s (q := i) (by omega) hfr.1 hz
        have hoq : mo [182] [21] σ (mc_up (mc_up σ 182 (σ 167 21).toNatClampNeg z) 167 21 (σ 167 21 + 1)) := (mo.a _ (by decide) (by decide) _ _).tr (mo.f _ (by decide) _)
        iterate 7 refine Wp.go rfl ?_
        refine Wp.call rfl cqX12_write (sX12_write (c := S.1 i) (hbe.o hoq) (hby.o hoq) (by omega) hr.1 (by omega) (fun j hj => by rw [hoq.1 183 (by decide) (by decide)]; exact hR i (by omega) hk j hj) (((hH.o ho).o hoq) i (by omega)).1 (hH i (by omega)).2 (hh i (by omega) hk) hz (dlE hz hy hY.2.2.2.2.2 (by omega))) (fun rv2 s2 hq2 => ?_)
        obtain ⟨rfl, hby2, hbe2, ho2⟩ := hq2
        iterate 4 refine Wp.go rfl ?_
        refine Wp.lo (lo := [(0, .inr (some 167)), (1, .inl _), (2, .inl _)]) ⟨rfl, rfl, rfl, trivial⟩ ?_
        have kk : ∀ (σ2 : mc_G), frI (foR (frS P H S) n (i + 1) (frS P H S Y i)) (pn P) σ2 → MF σ0 σ2 → σ2 183 = σ 183 → Φ none σ2 := kk
        have hl := w1_len (B := Y.2.1.2) (δ := i - Y.2.2) hbe2.2.1 (Nat.le_trans (tq_6 hr.1) hr.1)
        have hwl := waL_1 (w1A Y.2.1.2 (tlA (S.1 i) e0A) (tqA (S.1 i) e0A) (i - Y.2.2)) Y.2.1.1 (by omega)
        rw [e1] at kk
        have hm9 : MF σ _ := (hoq.wi (by decide) (by decide)).tr (ho2.wi (by decide) (by decide))
        have h83 := (ho2.1 183 (by decide) (by decide)).trans (hoq.1 183 (by decide) (by decide))
        exact ih (i + 1) _ _ ((va_up Y.1.1 Y.1.2 i, Y.1.2 + 1), (waL Y.2.1.1 (w1A Y.2.1.2 (tlA (S.1 i) e0A) (tqA (S.1 i) e0A) (i - Y.2.2)), tlA (S.1 i) e0A), i + 1) _ (nE_add hz (rfl : _ = nI 1)) (by omega) (laE hz) ⟨hfr2.o ho2, hby2, hbe2, by show Y.1.2 + 1 ≤ i + 1; omega, by show (waL _ _).1 ≤ 32 * (Y.1.2 + 1); omega, Nat.le_refl _⟩ (fun a ha b j hj => by rw [h83]; exact hR a ha b j hj) (mo.tr ho hm9) (fun σ2 a1 a2 a3 => kk σ2 a1 a2 (a3.trans h83))
theorem cpS {σ : mc_G} {p : Int32} {k : Nat} (h : ∀ j, j < k → σ 183 j = σ 179 j) (hp : p = nI k) (hk : k < 420) : ∀ j, j < k + 1 → mc_up σ 183 p.toNatClampNeg (σ 179 p.toNatClampNeg) 183 j = mc_up σ 183 p.toNatClampNeg (σ 179 p.toNatClampNeg) 179 j := by
  intro j hj
  rw [clE hp (by omega), upj, mc_upn _ _ _ (by decide)]
  by_cases q : j = k
  · rw [if_pos q, q]
  · rw [if_neg q]; exact h j (by omega)
set_option maxRecDepth 100000 in
theorem lX12_frC {Φ : Option mc_V → mc_G → Prop} : ∀ (n k : Nat) (z : Int32) (σ : mc_G), z = nI k → k ≤ 420 → 420 - k < n → (∀ j, j < k → σ 183 j = σ 179 j) → (∀ (z1 : Int32) (σ1 : mc_G), (∀ j, j < 420 → σ1 183 j = σ 179 j) → mo [183] [] σ σ1 → Wp miX12_frame 37 [(0, .inr (some 167)), (1, .inl z1)] [] σ1 Φ) → Wp miX12_frame 12 [(0, .inr (some 167)), (1, .inl z)] [] σ Φ := by
  intro n
  induction n with
  | zero => intro k z σ hz hk h; omega
  | succ n ih =>
    intro k z σ hz hk hn hA kk
    iterate 3 refine Wp.go rfl ?_
    refine Wp.geN (a := k) (b := 420) hz (rfl : _ = nI 420) (by omega) (by omega) (fun (h1 : ¬ k < 420) => ?_) (fun (h1 : k < 420) => ?_)
    · exact kk z σ (fun j hj => hA j (by omega)) mo.rf
    · iterate 6 refine Wp.go rfl ?_
      refine Wp.go (if_pos ⟨rfl, rfl, (inE (n := 420) hz (by omega))⟩) ?_
      refine Wp.go (if_pos ⟨(show 183 < 187 by decide), rfl, (inE (n := 420) hz (by omega))⟩) ?_
      iterate 2 refine Wp.go rfl ?_
      refine Wp.lo (lo := [(0, .inr (some 167)), (1, .inl _)]) ⟨rfl, rfl, trivial⟩ ?_
      refine ih (k + 1) _ _ (nE_add hz (rfl : _ = nI 1)) (by omega) (by omega) (cpS hA hz (by omega)) (fun z1 σ1 a1 a2 => kk z1 σ1 (fun j hj => (a1 j hj).trans (by rw [mc_upn _ _ _ (by decide)])) ((mo.a _ (by decide) (by decide) _ _).tr a2))
set_option maxRecDepth 100000 in
theorem sX12_frame {P : pT} {T : tT} (hG : pG P T) {H : Nat → Nat} {S : sS} {c : cS} {σ : mc_G} (hP : cMP P σ) (hB : cMB c σ) (hH : mH7 H σ) (hS : mSt S σ) (hh : ∀ i, i < 30 → S.2.1 i = true → hiO (H i) = (S.1 i).1) (hFk : ∀ i, i < pn P → iFA P H i = true → S.2.1 i = true) : Wp miX12_frame 0 [(0, .inr (some 167))] [] σ (fun rv σ' => rv = none ∧ frI (foR (frS P H S) (pn P) 0 (y0A c)) (pn P) σ' ∧ (∀ a, a < 30 → S.2.1 a = true → ∀ j, j < 8 + (S.1 a).1 → σ' 183 (14 * a + j) = nI ((S.1 a).2 j) ∧ (S.1 a).2 j < 300) ∧ MF σ σ') := by
  iterate 8 refine Wp.go rfl ?_
  refine Wp.lo (lo := [(0, .inr (some 167)), (1, .inl _)]) ⟨rfl, rfl, trivial⟩ ?_
  let τ : mc_G := mc_up (mc_up σ 167 21 0) 167 24 0
  have oτ : mo [] [21, 24] σ τ := (mo.f _ (by decide) _).tr (mo.f _ (by decide) _)
  have f1 : mFr (fun _ => 0, 0) τ := ⟨by show mc_up (mc_up σ 167 21 0) 167 24 0 167 21 = _; rw [upj, if_neg (by decide), upj, if_pos rfl]; rfl, by decide, fun k hk => by cases hk⟩
  have f2 : mBy (0, fun _ => 0) τ := ⟨by show mc_up (mc_up σ 167 21 0) 167 24 0 167 24 = _; rw [upj, if_pos rfl]; rfl, by show 0 ≤ 960; decide, fun k hk => by cases hk⟩
  refine lX12_frC 421 0 _ τ (rfl : _ = nI 0) (by decide) (by decide) (fun j hj => by omega) (fun z1 σ1 a1 a2 => ?_)
  have oz : mo [183] [21, 24] σ σ1 := (oτ.wi (by decide) (by decide)).tr (a2.wi (by decide) (by decide))
  iterate 4 refine Wp.go rfl ?_
  refine Wp.call rfl cqX12_list (sX12_list170 (c := c) (a := 0) (by decide) (rfl : _ = nI 0) (fun j hj => by rw [Nat.zero_add]; exact (hB.o oz) j hj)) (fun rv1 s1 hq1 => ?_)
  obtain ⟨rfl, hE1, ho1⟩ := hq1
  refine Wp.go rfl ?_
  refine Wp.call rfl cqX12_keepEntries (sX12_keepEntries hE1) (fun rv2 s2 hq2 => ?_)
  obtain ⟨rfl, hB2, ho2⟩ := hq2
  iterate 4 refine Wp.go rfl ?_
  refine Wp.lo (lo := [(0, .inr (some 167)), (1, .inl _), (2, .inl _)]) ⟨rfl, rfl, rfl, trivial⟩ ?_
  have e179 : τ 179 = σ 179 := oτ.1 179 (by decide) (by decide)
  have e183 : s2 183 = σ1 183 := (ho2.1 183 (by decide) (by decide)).trans (ho1.1 183 (by decide) (by decide))
  have hR : ∀ a, a < 30 → S.2.1 a = true → ∀ j, j < 8 + (S.1 a).1 → s2 183 (14 * a + j) = nI ((S.1 a).2 j) ∧ (S.1 a).2 j < 300 := fun a ha b j hj => by
    have h6 := ((hS a ha).2 b).1
    rw [e183, a1 _ (by omega), e179]
    exact ((hS a ha).2 b).2 j hj
  have oz2 : MF σ s2 := ((oz.wi (by decide) (by decide)).tr (ho1.wi (by decide) (by decide))).tr (ho2.wi (by decide) (by decide))
  refine lX12_fr hG hP hH hS hh hFk (pn P) 0 _ _ (y0A c) s2 (rfl : _ = nI 0) (by omega) rfl ⟨((f1.o a2).o ho1).o ho2, ((f2.o a2).o ho1).o ho2, hB2, Nat.le_refl _, Nat.le_refl _, Nat.le_refl _⟩ hR oz2 (fun σ2 b1 b2 b3 => ⟨rfl, b1, ?_, b2⟩)
  intro a ha b j hj
  rw [b3]
  exact hR a ha b j hj

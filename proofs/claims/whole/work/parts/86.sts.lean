/-! the STATES: both work out the least that goes along all ways -/
def EdF (P : pT) (T : tT) (c : cS) (S : sS) (k : Nat) : Prop := (goA P k = true → S.2.1 (k + 1) = true ∧ cle T (psC P T k c) (S.1 (k + 1))) ∧ (juA P k = true → S.2.1 (nuN P k) = true ∧ cle T (psC P T k c) (S.1 (nuN P k))) ∧ (∀ j, cvA P j k = true → S.2.1 (qa P j) = true ∧ cle T (1, va_up c.2 8 (100 + qk P j)) (S.1 (qa P j)))
def Sol (P : pT) (T : tT) (h : Nat → Nat) (rc : Nat → Bool) (B : cS) (L : Nat → cS) : Prop := cle T B (L 0) ∧ ∀ k, rc k = true → (L k).1 = h k ∧ gC P T (L k) ∧ (goA P k = true → cle T (psC P T k (L k)) (L (k + 1))) ∧ (juA P k = true → cle T (psC P T k (L k)) (L (nuN P k))) ∧ (∀ j, cvA P j k = true → cle T (1, va_up (L k).2 8 (100 + qk P j)) (L (qa P j)))
def sI (P : pT) (T : tT) (h : Nat → Nat) (rc : Nat → Bool) (B : cS) (S : sS) : Prop := nOk P T h rc S ∧ ∀ L, Sol P T h rc B L → ∀ k, S.2.1 k = true → cle T (S.1 k) (L k)
def sle (T : tT) (S S' : sS) : Prop := (∀ k, S.2.1 k = true → S'.2.1 k = true ∧ cle T (S.1 k) (S'.1 k)) ∧ (∀ k, S.2.2.1 k = true → S'.2.2.1 k = true) ∧ (∀ k, S'.2.1 k = true → (S.2.1 k = true ∧ S'.1 k = S.1 k) ∨ S'.2.2.1 k = true) ∧ (∀ k, S'.2.2.1 k = true → S.2.2.1 k = true ∨ S'.2.2.2.1 = true) ∧ (S.2.2.2.1 = true → S'.2.2.2.1 = true) ∧ (S'.2.2.2.1 = true → S.2.2.2.1 = true ∨ muS S' < muS S) ∧ muS S' ≤ muS S ∧ (S'.2.2.2.1 = false → S'.1 = S.1 ∧ S'.2.1 = S.2.1) ∧ (∀ k, S'.2.2.1 k = true → S.2.2.1 k = true ∨ S'.2.1 k = true)
theorem sle.rf {T : tT} {S : sS} : sle T S S := ⟨fun _ h => ⟨h, cle_r _⟩, fun _ h => h, fun _ h => Or.inl ⟨h, rfl⟩, fun _ h => Or.inl h, fun h => h, fun h => Or.inl h, Nat.le_refl _, fun _ => ⟨rfl, rfl⟩, fun _ h => Or.inl h⟩
theorem sle.sh {T : tT} {S : sS} {c : cS} : sle T S (sh S c) := ⟨fun _ h => ⟨h, cle_r _⟩, fun _ h => h, fun _ h => Or.inl ⟨h, rfl⟩, fun _ h => Or.inl h, fun h => h, fun h => Or.inl h, Nat.le_refl _, fun _ => ⟨rfl, rfl⟩, fun _ h => Or.inl h⟩
theorem sle.tr {T : tT} (hO : tOk T) {S Y X : sS} (a : sle T S Y) (b : sle T Y X) : sle T S X := by
  obtain ⟨a1, a2, a3, a4, a5, a6, a7, a8, a9⟩ := a
  obtain ⟨b1, b2, b3, b4, b5, b6, b7, b8, b9⟩ := b
  refine ⟨fun k h => ⟨(b1 k (a1 k h).1).1, cle_t hO (a1 k h).2 (b1 k (a1 k h).1).2⟩, fun k h => b2 k (a2 k h), fun k h => ?_, fun k h => ?_, fun h => b5 (a5 h), fun h => ?_, by omega, fun h => ?_, fun k h => ?_⟩
  · rcases b3 k h with ⟨q1, q2⟩ | q
    · rcases a3 k q1 with ⟨r1, r2⟩ | r
      · exact Or.inl ⟨r1, q2.trans r2⟩
      · exact Or.inr (b2 k r)
    · exact Or.inr q
  · rcases b4 k h with q | q
    · exact (a4 k q).imp id b5
    · exact Or.inr q
  · rcases b6 h with q | q
    · rcases a6 q with r | r
      · exact Or.inl r
      · exact Or.inr (by omega)
    · exact Or.inr (by omega)
  · have hy : Y.2.2.2.1 = false := by
      cases e : Y.2.2.2.1
      · rfl
      · rw [b5 e] at h; cases h
    exact ⟨(b8 h).1.trans (a8 hy).1, (b8 h).2.trans (a8 hy).2⟩
  · rcases b9 k h with q | q
    · rcases a9 k q with r | r
      · exact Or.inl r
      · exact Or.inr (b1 k r).1
    · exact Or.inr q
theorem EdF.mo {P : pT} {T : tT} (hO : tOk T) {c : cS} {S S' : sS} {k : Nat} (h : EdF P T c S k) (m : sle T S S') : EdF P T c S' k :=
  ⟨fun q => ⟨(m.1 _ (h.1 q).1).1, cle_t hO (h.1 q).2 (m.1 _ (h.1 q).1).2⟩, fun q => ⟨(m.1 _ (h.2.1 q).1).1, cle_t hO (h.2.1 q).2 (m.1 _ (h.2.1 q).1).2⟩, fun j q => ⟨(m.1 _ (h.2.2 j q).1).1, cle_t hO (h.2.2 j q).2 (m.1 _ (h.2.2 j q).1).2⟩⟩
theorem va_id {α : Type} {f : Nat → α} {m : Nat} {x : α} (h : x = f m) : va_up f m x = f := by
  funext j; unfold va_up; split
  · next e => rw [e, h]
  · rfl
theorem mu_lt {S S' : sS} {m : Nat} (hm : m < 30) (h1 : ∀ k, ¬ k = m → S'.2.1 k = S.2.1 k ∧ S'.1 k = S.1 k) (h2 : (if S'.2.1 m = true then rkR (S'.1 m) else 141) < (if S.2.1 m = true then rkR (S.1 m) else 141)) : muS S' < muS S := by
  unfold muS
  refine suL_lt 30 (fun k _ => ?_) ⟨m, hm, h2⟩
  by_cases e : k = m
  · subst e; exact Nat.le_of_lt h2
  · rw [(h1 k e).1, (h1 k e).2]; exact Nat.le_refl _
/-- what may be brought to an INSTRUCTION -/
def eOk (P : pT) (T : tT) (h : Nat → Nat) (rc : Nat → Bool) (B : cS) (m : Nat) (e : cS) : Prop := rc m = true ∧ e.1 = h m ∧ gC P T e ∧ ∀ L, Sol P T h rc B L → cle T e (L m)
theorem mt_ok {P : pT} {T : tT} {h : Nat → Nat} {rc : Nat → Bool} {B : cS} (hG : pG P T) (hH : pH P h rc) {S : sS} (hS : sI P T h rc B S) {m : Nat} {e : cS} (he : eOk P T h rc B m e) : sle T S (mtA T (pn P) S m e) ∧ sI P T h rc B (mtA T (pn P) S m e) ∧ (mtA T (pn P) S m e).2.1 m = true ∧ cle T e ((mtA T (pn P) S m e).1 m) := by
  have hO := hG.1
  have hn := hG.2.1.1
  have hm := (hH.2.2 m he.1).1
  have hnk : nOk P T h rc (mtA T (pn P) S m e) := hS.1.mt hO he.1 he.2.1 he.2.2.1
  have e1 := mtA_1 (T := T) (S := S) (e := e) hm
  have e2 := mtA_2 (T := T) (S := S) (e := e) hm
  have hub : ∀ L, Sol P T h rc B L → ∀ k, (mtA T (pn P) S m e).2.1 k = true → cle T ((mtA T (pn P) S m e).1 k) (L k) := by
    intro L hL k
    rw [e1, e2]
    unfold va_up
    by_cases q : k = m
    · subst q
      rw [if_pos rfl, if_pos rfl]
      intro _
      unfold jnW
      split
      · next r => exact jw_u hO (hS.2 L hL k r) (he.2.2.2 L hL)
      · exact he.2.2.2 L hL
    · rw [if_neg q, if_neg q]; exact hS.2 L hL k
  refine ⟨?_, ⟨hnk, hub⟩, by rw [e2]; unfold va_up; rw [if_pos rfl], ?_⟩
  · unfold mtA
    rw [if_pos hm]
    cases hr : S.2.1 m
    · rw [if_pos rfl]
      have hlt : muS (va_up S.1 m e, va_up S.2.1 m true, va_up S.2.2.1 m true, true, S.2.2.2.2) < muS S := by
        refine mu_lt (m := m) (by omega) (fun k q => ⟨if_neg q, if_neg q⟩) ?_
        show (if va_up S.2.1 m true m = true then rkR (va_up S.1 m e m) else 141) < _
        rw [hr, show va_up S.2.1 m true m = true from if_pos rfl, show va_up S.1 m e m = e from if_pos rfl]
        have := rkR_b he.2.2.1.1
        simp; omega
      refine ⟨fun k q => ?_, fun k q => ?_, fun k q => ?_, fun k q => Or.inr rfl, fun _ => rfl, fun _ => Or.inr hlt, Nat.le_of_lt hlt, fun q => (by cases q), fun k q => ?_⟩
      · have : ¬ k = m := fun r => by rw [r, hr] at q; cases q
        refine ⟨?_, ?_⟩
        · show va_up S.2.1 m true k = true
          unfold va_up; rw [if_neg this]; exact q
        · show cle T (S.1 k) (va_up S.1 m e k)
          unfold va_up; rw [if_neg this]; exact cle_r _
      · show va_up S.2.2.1 m true k = true
        unfold va_up; split
        · rfl
        · exact q
      · by_cases r : k = m
        · refine Or.inr ?_
          show va_up S.2.2.1 m true k = true
          unfold va_up; rw [if_pos r]
        · refine Or.inl ⟨?_, ?_⟩
          · have q : va_up S.2.1 m true k = true := q
            unfold va_up at q; rw [if_neg r] at q; exact q
          · show va_up S.1 m e k = S.1 k
            unfold va_up; rw [if_neg r]
      · by_cases r : k = m
        · refine Or.inr ?_
          show va_up S.2.1 m true k = true
          unfold va_up; rw [if_pos r]
        · have q : va_up S.2.2.1 m true k = true := q
          unfold va_up at q; rw [if_neg r] at q; exact Or.inl q
    · rw [if_neg (by decide)]
      have hc1 : (S.1 m).1 = e.1 := by rw [(hS.1 m hr).2.1, he.2.1]
      by_cases hj : jcA T (S.1 m) e (8 + (S.1 m).1) = true
      · rw [if_pos hj]
        have hle := jw_l hO hc1
        have hlt : muS (va_up S.1 m (jwA T (S.1 m) e), S.2.1, va_up S.2.2.1 m true, true, S.2.2.2.2) < muS S := by
          refine mu_lt (m := m) (by omega) (fun k q => ⟨rfl, if_neg q⟩) ?_
          show (if S.2.1 m = true then rkR (va_up S.1 m (jwA T (S.1 m) e) m) else 141) < _
          rw [hr, show va_up S.1 m (jwA T (S.1 m) e) m = jwA T (S.1 m) e from if_pos rfl]
          simp only [if_true]
          exact rkR_lt hO hle (jc_t hj)
        refine ⟨fun k q => ⟨q, ?_⟩, fun k q => ?_, fun k q => ?_, fun k q => Or.inr rfl, fun _ => rfl, fun _ => Or.inr hlt, Nat.le_of_lt hlt, fun q => (by cases q), fun k q => ?_⟩
        · show cle T (S.1 k) (va_up S.1 m (jwA T (S.1 m) e) k)
          unfold va_up; split
          · next r => rw [r]; exact hle
          · exact cle_r _
        · show va_up S.2.2.1 m true k = true
          unfold va_up; split
          · rfl
          · exact q
        · by_cases r : k = m
          · refine Or.inr ?_
            show va_up S.2.2.1 m true k = true
            unfold va_up; rw [if_pos r]
          · refine Or.inl ⟨q, ?_⟩
            show va_up S.1 m _ k = S.1 k
            unfold va_up; rw [if_neg r]
        · by_cases r : k = m
          · exact Or.inr (by rw [r]; exact hr)
          · have q : va_up S.2.2.1 m true k = true := q
            unfold va_up at q; rw [if_neg r] at q; exact Or.inl q
      · rw [if_neg hj]
        have hj : jcA T (S.1 m) e (8 + (S.1 m).1) = false := by simpa using hj
        have e3 : (va_up S.1 m (jwA T (S.1 m) e), S.2) = S := by rw [va_id (jc_f hj)]
        rw [e3]; exact sle.rf
  · rw [e1]
    unfold va_up; rw [if_pos rfl]
    unfold jnW
    split
    · next r => exact jw_r hO (by rw [(hS.1 m r).2.1, he.2.1])
    · exact cle_r _
theorem sI.sh {P : pT} {T : tT} {h : Nat → Nat} {rc : Nat → Bool} {B : cS} {S : sS} (hS : sI P T h rc B S) (c : cS) : sI P T h rc B (sh S c) := hS
theorem e_ps {P : pT} {T : tT} {h : Nat → Nat} {rc : Nat → Bool} {B : cS} (hG : pG P T) (hH : pH P h rc) {S : sS} (hS : sI P T h rc B S) {k : Nat} (hk : S.2.1 k = true) : (goA P k = true → eOk P T h rc B (k + 1) (psC P T k (S.1 k))) ∧ (juA P k = true → eOk P T h rc B (nuN P k) (psC P T k (S.1 k))) ∧ (∀ j, cvA P j k = true → eOk P T h rc B (qa P j) (1, va_up (S.1 k).2 8 (100 + qk P j))) := by
  obtain ⟨a1, a2, a3⟩ := hS.1 k hk
  obtain ⟨b0, b1, b2, b3, b4, b5⟩ := hH.2.2 k a1
  have hp := psC_ok hG a3 (k := k) (by rw [a2]; exact b1) (by rw [a2]; exact b2)
  rw [a2] at hp
  have hmo : ∀ L, Sol P T h rc B L → cle T (psC P T k (S.1 k)) (psC P T k (L k)) := fun L hL => ps_mon hG (hS.2 L hL k hk) a3 (hL.2 k a1).2.1 (by rw [a2]; exact b1) (by rw [a2]; exact b2)
  refine ⟨fun q => ⟨(b3 q).1, hp.2.trans (b3 q).2.symm, hp.1, fun L hL => cle_t hG.1 (hmo L hL) ((hL.2 k a1).2.2.1 q)⟩, fun q => ⟨(b4 q).1, hp.2.trans (b4 q).2.symm, hp.1, fun L hL => cle_t hG.1 (hmo L hL) ((hL.2 k a1).2.2.2.1 q)⟩, fun j q => ⟨(b5 j q).1, (b5 j q).2.symm, gC_hd a3 (hG.2.2.2.2.2.2 j (cv_lt q)), fun L hL => cle_t hG.1 (hd_mo (hS.2 L hL k hk) _) ((hL.2 k a1).2.2.2.2 j q)⟩⟩
theorem s23_ok {P : pT} {T : tT} {h : Nat → Nat} {rc : Nat → Bool} {B : cS} (hG : pG P T) (hH : pH P h rc) {S : sS} (hS : sI P T h rc B S) {k : Nat} (hk : S.2.1 k = true) : sle T S (sv3 P T (sv2 P T (sv1 P T S k) k) k) ∧ sI P T h rc B (sv3 P T (sv2 P T (sv1 P T S k) k) k) ∧ (goA P k = true → (sv3 P T (sv2 P T (sv1 P T S k) k) k).2.1 (k + 1) = true ∧ cle T (psC P T k (S.1 k)) ((sv3 P T (sv2 P T (sv1 P T S k) k) k).1 (k + 1))) ∧ (juA P k = true → (sv3 P T (sv2 P T (sv1 P T S k) k) k).2.1 (nuN P k) = true ∧ cle T (psC P T k (S.1 k)) ((sv3 P T (sv2 P T (sv1 P T S k) k) k).1 (nuN P k))) := by
  have hO := hG.1
  have hE := e_ps hG hH hS hk
  have h1 : sle T S (sv1 P T S k) ∧ sI P T h rc B (sv1 P T S k) ∧ (sv1 P T S k).2.2.2.2 = psC P T k (S.1 k) := ⟨sle.sh, hS, rfl⟩
  generalize sv1 P T S k = S1 at *
  have h2 : sle T S (sv2 P T S1 k) ∧ sI P T h rc B (sv2 P T S1 k) ∧ (sv2 P T S1 k).2.2.2.2 = psC P T k (S.1 k) ∧ (goA P k = true → (sv2 P T S1 k).2.1 (k + 1) = true ∧ cle T (psC P T k (S.1 k)) ((sv2 P T S1 k).1 (k + 1))) := by
    unfold sv2
    split
    · next q =>
      rw [h1.2.2]
      have := mt_ok hG hH h1.2.1 (hE.1 q)
      exact ⟨h1.1.tr hO this.1, this.2.1, by rw [mtA_5]; exact h1.2.2, fun _ => this.2.2⟩
    · next q => exact ⟨h1.1, h1.2.1, h1.2.2, fun r => absurd r q⟩
  generalize sv2 P T S1 k = S2 at *
  unfold sv3
  split
  · next q =>
    rw [h2.2.2.1]
    have := mt_ok hG hH h2.2.1 (hE.2.1 q)
    exact ⟨h2.1.tr hO this.1, this.2.1, fun r => ⟨(this.1.1 _ (h2.2.2.2 r).1).1, cle_t hO (h2.2.2.2 r).2 (this.1.1 _ (h2.2.2.2 r).1).2⟩, fun _ => this.2.2⟩
  · next q => exact ⟨h2.1, h2.2.1, h2.2.2.2, fun r => absurd r q⟩
theorem s4_fold {P : pT} {T : tT} {h : Nat → Nat} {rc : Nat → Bool} {B : cS} (hG : pG P T) (hH : pH P h rc) {k : Nat} : ∀ (m j : Nat) (S : sS), sI P T h rc B S → S.2.1 k = true → sle T S (foR (sv4 P T k) m j S) ∧ sI P T h rc B (foR (sv4 P T k) m j S) ∧ ∀ t, j ≤ t → t < j + m → cvA P t k = true → (foR (sv4 P T k) m j S).2.1 (qa P t) = true ∧ cle T (1, va_up (S.1 k).2 8 (100 + qk P t)) ((foR (sv4 P T k) m j S).1 (qa P t)) := by
  have hO := hG.1
  intro m
  induction m with
  | zero => intro j S hS hk; exact ⟨sle.rf, hS, fun t h1 h2 => by omega⟩
  | succ m ih =>
    intro j S hS hk
    have h1 : sle T S (sv4 P T k S j) ∧ sI P T h rc B (sv4 P T k S j) ∧ (cvA P j k = true → (sv4 P T k S j).2.1 (qa P j) = true ∧ cle T (1, va_up (S.1 k).2 8 (100 + qk P j)) ((sv4 P T k S j).1 (qa P j))) := by
      unfold sv4
      split
      · next q =>
        have := mt_ok hG hH (hS.sh (1, va_up (S.1 k).2 8 (100 + qk P j))) ((e_ps hG hH hS hk).2.2 j q)
        exact ⟨sle.sh.tr hO this.1, this.2.1, fun _ => this.2.2⟩
      · next q => exact ⟨sle.rf, hS, fun r => absurd r q⟩
    have h2 := ih (j + 1) _ h1.2.1 (h1.1.1 k hk).1
    refine ⟨h1.1.tr hO h2.1, h2.2.1, fun t a b c => ?_⟩
    by_cases e : t = j
    · subst e
      have := h1.2.2 c
      exact ⟨(h2.1.1 _ this.1).1, cle_t hO this.2 (h2.1.1 _ this.1).2⟩
    · have := h2.2.2 t (by omega) (by omega) c
      exact ⟨this.1, cle_t hO (hd_mo (h1.1.1 k hk).2 _) this.2⟩
theorem sv_ok {P : pT} {T : tT} {h : Nat → Nat} {rc : Nat → Bool} {B : cS} (hG : pG P T) (hH : pH P h rc) {S : sS} (hS : sI P T h rc B S) {k : Nat} (hk : S.2.1 k = true) : sle T S (svA P T S k) ∧ sI P T h rc B (svA P T S k) ∧ EdF P T (S.1 k) (svA P T S k) k := by
  have hO := hG.1
  have h1 := s23_ok hG hH hS hk
  unfold svA
  generalize sv3 P T (sv2 P T (sv1 P T S k) k) k = S1 at *
  have h2 := s4_fold hG hH (k := k) (qn P) 0 S1 h1.2.1 (h1.1.1 k hk).1
  refine ⟨h1.1.tr hO h2.1, h2.2.1, fun q => ?_, fun q => ?_, fun j q => ?_⟩
  · exact ⟨(h2.1.1 _ (h1.2.2.1 q).1).1, cle_t hO (h1.2.2.1 q).2 (h2.1.1 _ (h1.2.2.1 q).1).2⟩
  · exact ⟨(h2.1.1 _ (h1.2.2.2 q).1).1, cle_t hO (h1.2.2.2 q).2 (h2.1.1 _ (h1.2.2.2 q).1).2⟩
  · have := h2.2.2 j (Nat.zero_le _) (by have := cv_lt q; omega) q
    exact ⟨this.1, cle_t hO (hd_mo (h1.1.1 k hk).2 _) this.2⟩
theorem br_ok {P : pT} {T : tT} {h : Nat → Nat} {rc : Nat → Bool} {B : cS} (hG : pG P T) (hH : pH P h rc) {S : sS} (hS : sI P T h rc B S) {k : Nat} (hk : S.2.1 k = true) : sle T S (brA P T S k) ∧ sI P T h rc B (brA P T S k) ∧ EdF P T (S.1 k) (brA P T S k) k := by
  have hO := hG.1
  have h2 := s4_fold hG hH (k := k) (qn P) 0 S hS hk
  unfold brA
  generalize foR (sv4 P T k) (qn P) 0 S = S1 at *
  have hk1 := (h2.1.1 k hk)
  have h1 := s23_ok hG hH h2.2.1 hk1.1
  have a := hS.1 k hk
  have a' := h2.2.1.1 k hk1.1
  have b := hH.2.2 k a.1
  have hmo := ps_mon hG hk1.2 a.2.2 a'.2.2 (k := k) (by rw [a.2.1]; exact b.2.1) (by rw [a.2.1]; exact b.2.2.1)
  refine ⟨h2.1.tr hO h1.1, h1.2.1, fun q => ⟨(h1.2.2.1 q).1, cle_t hO hmo (h1.2.2.1 q).2⟩, fun q => ⟨(h1.2.2.2 q).1, cle_t hO hmo (h1.2.2.2 q).2⟩, fun j q => ?_⟩
  have := h2.2.2 j (Nat.zero_le _) (by have := cv_lt q; omega) q
  exact ⟨(h1.1.1 _ this.1).1, cle_t hO this.2 (h1.1.1 _ this.1).2⟩
/-! the class -/
def sJ (P : pT) (T : tT) (h : Nat → Nat) (rc : Nat → Bool) (B : cS) (S : sS) : Prop := sI P T h rc B S ∧ (∀ k, S.2.1 k = true → S.2.2.1 k = false → EdF P T (S.1 k) S k) ∧ (S.2.1 0 = true ∧ cle T B (S.1 0)) ∧ (∀ k, S.2.2.1 k = true → S.2.1 k = true)
theorem sJ.sv {P : pT} {T : tT} {h : Nat → Nat} {rc : Nat → Bool} {B : cS} (hG : pG P T) (hH : pH P h rc) {S : sS} (hS : sJ P T h rc B S) {k : Nat} (hk : S.2.2.1 k = true) : sJ P T h rc B (svA P T (S.1, S.2.1, va_up S.2.2.1 k false, S.2.2.2) k) ∧ sle T (S.1, S.2.1, va_up S.2.2.1 k false, S.2.2.2) (svA P T (S.1, S.2.1, va_up S.2.2.1 k false, S.2.2.2) k) := by
  have hO := hG.1
  have hI : sI P T h rc B (S.1, S.2.1, va_up S.2.2.1 k false, S.2.2.2) := hS.1
  have h1 := sv_ok hG hH hI (k := k) (hS.2.2.2 k hk)
  generalize hS1 : svA P T (S.1, S.2.1, va_up S.2.2.1 k false, S.2.2.2) k = S1 at *
  obtain ⟨m, i, e⟩ := h1
  have m0 := m
  obtain ⟨a1, a2, a3, a4, a5, a6, a7, a8, a9⟩ := m
  refine ⟨⟨i, fun j hj hw => ?_, ⟨(a1 0 hS.2.2.1.1).1, cle_t hO hS.2.2.1.2 (a1 0 hS.2.2.1.1).2⟩, fun j hj => ?_⟩, m0⟩
  · rcases a3 j hj with ⟨r1, r2⟩ | r
    · have r2 : S1.1 j = S.1 j := r2
      by_cases q : j = k
      · subst q; rw [r2]; exact e
      · have hw1 : S.2.2.1 j = false := by
          cases x : S.2.2.1 j
          · rfl
          · have : va_up S.2.2.1 k false j = true := by unfold va_up; rw [if_neg q]; exact x
            rw [a2 j this] at hw; cases hw
        rw [r2]
        have he : EdF P T (S.1 j) (S.1, S.2.1, va_up S.2.2.1 k false, S.2.2.2) j := hS.2.1 j r1 hw1
        exact he.mo hO m0
    · rw [hw] at r; cases r
  · rcases a9 j hj with r | r
    · have r : va_up S.2.2.1 k false j = true := r
      unfold va_up at r
      by_cases q : j = k
      · rw [if_pos q] at r; cases r
      · rw [if_neg q] at r
        exact (a1 j (hS.2.2.2 j r)).1
    · exact r
theorem sr_ok {P : pT} {T : tT} {h : Nat → Nat} {rc : Nat → Bool} {B : cS} (hG : pG P T) (hH : pH P h rc) {S : sS} (hS : sJ P T h rc B S) (k : Nat) : sJ P T h rc B (srA P T S k) ∧ muS (srA P T S k) ≤ muS S ∧ (S.2.2.2.1 = true → (srA P T S k).2.2.2.1 = true) ∧ ((srA P T S k).2.2.2.1 = true → S.2.2.2.1 = true ∨ muS (srA P T S k) < muS S) ∧ (∀ j, (srA P T S k).2.2.1 j = true → (S.2.2.1 j = true ∧ j ≠ k) ∨ (srA P T S k).2.2.2.1 = true) := by
  unfold srA
  split
  · next q =>
    have h1 := hS.sv hG hH q
    generalize svA P T (S.1, S.2.1, va_up S.2.2.1 k false, S.2.2.2) k = S1 at *
    obtain ⟨j1, a1, a2, a3, a4, a5, a6, a7, a8, a9⟩ := h1
    refine ⟨j1, a7, a5, a6, fun j hj => ?_⟩
    rcases a4 j hj with r | r
    · have r : va_up S.2.2.1 k false j = true := r
      unfold va_up at r
      by_cases e : j = k
      · rw [if_pos e] at r; cases r
      · rw [if_neg e] at r; exact Or.inl ⟨r, e⟩
    · exact Or.inr r
  · next q =>
    refine ⟨hS, Nat.le_refl _, fun r => r, fun r => Or.inl r, fun j hj => Or.inl ⟨hj, fun e => ?_⟩⟩
    subst e; exact q hj
theorem sr_fold {P : pT} {T : tT} {h : Nat → Nat} {rc : Nat → Bool} {B : cS} (hG : pG P T) (hH : pH P h rc) : ∀ (m i : Nat) (S : sS), sJ P T h rc B S → sJ P T h rc B (foR (srA P T) m i S) ∧ muS (foR (srA P T) m i S) ≤ muS S ∧ (S.2.2.2.1 = true → (foR (srA P T) m i S).2.2.2.1 = true) ∧ ((foR (srA P T) m i S).2.2.2.1 = true → S.2.2.2.1 = true ∨ muS (foR (srA P T) m i S) < muS S) ∧ (∀ j, (foR (srA P T) m i S).2.2.1 j = true → (S.2.2.1 j = true ∧ (j < i ∨ i + m ≤ j)) ∨ (foR (srA P T) m i S).2.2.2.1 = true) := by
  intro m
  induction m with
  | zero => intro i S hS; exact ⟨hS, Nat.le_refl _, fun r => r, fun r => Or.inl r, fun j hj => Or.inl ⟨hj, by omega⟩⟩
  | succ m ih =>
    intro i S hS
    obtain ⟨a1, a2, a3, a4, a5⟩ := sr_ok hG hH hS i
    obtain ⟨b1, b2, b3, b4, b5⟩ := ih (i + 1) _ a1
    refine ⟨b1, Nat.le_trans b2 a2, fun r => b3 (a3 r), fun r => ?_, fun j hj => ?_⟩
    · show S.2.2.2.1 = true ∨ muS (foR (srA P T) m (i + 1) (srA P T S i)) < muS S
      rcases b4 r with q | q
      · rcases a4 q with q | q
        · exact Or.inl q
        · exact Or.inr (Nat.lt_of_le_of_lt b2 q)
      · exact Or.inr (Nat.lt_of_lt_of_le q a2)
    · rcases b5 j hj with ⟨q1, q2⟩ | q
      · rcases a5 j q1 with ⟨r1, r2⟩ | r
        · exact Or.inl ⟨r1, by omega⟩
        · exact Or.inr (b3 r)
      · exact Or.inr q
theorem sw_0 {P : pT} {T : tT} {S : sS} (h : S.2.2.2.1 = false) : ∀ N, swA P T N S = S
  | 0 => rfl
  | N + 1 => by show (if _ then _ else _) = _; rw [if_neg (by rw [h]; decide)]
theorem sw_ok {P : pT} {T : tT} {h : Nat → Nat} {rc : Nat → Bool} {B : cS} (hG : pG P T) (hH : pH P h rc) : ∀ (N : Nat) (S : sS), sJ P T h rc B S → (S.2.2.2.1 = false → ∀ j, S.2.2.1 j = false) → muS S < N → sJ P T h rc B (swA P T N S) ∧ ∀ j, (swA P T N S).2.2.1 j = false := by
  intro N
  induction N with
  | zero => intro S _ _ h; omega
  | succ N ih =>
    intro S hS hw hc
    by_cases hz : S.2.2.2.1 = true
    · have e : swA P T (N + 1) S = swA P T N (snR P T S) := by show (if _ then _ else _) = _; rw [if_pos hz]
      rw [e]
      obtain ⟨b1, b2, b3, b4, b5⟩ := sr_fold hG hH 30 0 (S.1, S.2.1, S.2.2.1, false, S.2.2.2.2) hS
      have e2 : foR (srA P T) 30 0 (S.1, S.2.1, S.2.2.1, false, S.2.2.2.2) = snR P T S := rfl
      rw [e2] at b1 b2 b3 b4 b5
      have e3 : muS (S.1, S.2.1, S.2.2.1, false, S.2.2.2.2) = muS S := rfl
      have hw2 : (snR P T S).2.2.2.1 = false → ∀ j, (snR P T S).2.2.1 j = false := fun q j => by
        cases hj : (snR P T S).2.2.1 j
        · rfl
        · rcases b5 j hj with ⟨r1, r2⟩ | r
          · have := (hH.2.2 j (b1.1.1 j (b1.2.2.2 j hj)).1).1
            have := hG.2.1.1
            omega
          · rw [q] at r; cases r
      by_cases hz2 : (snR P T S).2.2.2.1 = true
      · refine ih _ b1 hw2 ?_
        rcases b4 hz2 with r | r
        · cases r
        · omega
      · have hz2 : (snR P T S).2.2.2.1 = false := by simpa using hz2
        rw [sw_0 hz2]
        exact ⟨b1, hw2 hz2⟩
    · have hz : S.2.2.2.1 = false := by simpa using hz
      rw [sw_0 hz]
      exact ⟨hS, hw hz⟩
theorem mu_b {P : pT} {T : tT} {h : Nat → Nat} {rc : Nat → Bool} {S : sS} (hS : nOk P T h rc S) : muS S ≤ 4230 := by
  have := suL_b (f := fun k => if S.2.1 k = true then rkR (S.1 k) else 141) (b := 141) 30 (fun k _ => by
    show (if S.2.1 k = true then rkR (S.1 k) else 141) ≤ 141
    split
    · next q => have := rkR_b (hS k q).2.2.1; omega
    · exact Nat.le_refl _)
  exact this
/-! the first row, and the end -/
theorem e_0 {P : pT} {T : tT} {h : Nat → Nat} {rc : Nat → Bool} {B : cS} (hH : pH P h rc) (hB1 : B.1 = 0) (hBg : gC P T B) : eOk P T h rc B 0 B := ⟨hH.1, hB1.trans hH.2.1.symm, hBg, fun _ hL => hL.1⟩
theorem sI_0 {P : pT} {T : tT} {h : Nat → Nat} {rc : Nat → Bool} {B : cS} {S : sS} (hr : ∀ k, S.2.1 k = false) : sI P T h rc B S := ⟨fun k q => (by rw [hr k] at q; cases q), fun _ _ k q => (by rw [hr k] at q; cases q)⟩
theorem sJ_0 {P : pT} {T : tT} {h : Nat → Nat} {rc : Nat → Bool} {B : cS} (hG : pG P T) (hH : pH P h rc) (hB1 : B.1 = 0) (hBg : gC P T B) {S : sS} (hr : ∀ k, S.2.1 k = false) (hw : ∀ k, S.2.2.1 k = false) : sJ P T h rc B (mtA T (pn P) S 0 B) ∧ (mtA T (pn P) S 0 B).2.2.2.1 = true := by
  have h1 := mt_ok hG hH (sI_0 (B := B) (h := h) (rc := rc) (P := P) (T := T) hr) (e_0 hH hB1 hBg)
  obtain ⟨m, i, r1, r2⟩ := h1
  refine ⟨⟨i, fun k hk hw' => ?_, ⟨r1, r2⟩, fun k hk => ?_⟩, ?_⟩
  · rcases m.2.2.1 k hk with ⟨q, -⟩ | q
    · rw [hr k] at q; cases q
    · rw [hw'] at q; cases q
  · rcases m.2.2.2.2.2.2.2.2 k hk with q | q
    · rw [hw k] at q; cases q
    · exact q
  · rw [mtA_4 (hH.2.2 0 hH.1).1]; unfold jnG; rw [hr 0]; simp
theorem sol_of {P : pT} {T : tT} {h : Nat → Nat} {rc : Nat → Bool} {B : cS} {S : sS} (hS : sI P T h rc B S) (hE : ∀ k, S.2.1 k = true → EdF P T (S.1 k) S k) (h0 : cle T B (S.1 0)) (hall : ∀ k, rc k = true → S.2.1 k = true) : Sol P T h rc B S.1 :=
  ⟨h0, fun k hk => ⟨(hS.1 k (hall k hk)).2.1, (hS.1 k (hall k hk)).2.2, fun q => ((hE k (hall k hk)).1 q).2, fun q => ((hE k (hall k hk)).2.1 q).2, fun j q => ((hE k (hall k hk)).2.2 j q).2⟩⟩
theorem all_of {P : pT} {T : tT} {B : cS} (hn : pn P ≤ 30) (hl : (lfM P).1 = 0) {S : sS} (h0 : S.2.1 0 = true) (hE : ∀ k, S.2.1 k = true → EdF P T (S.1 k) S k) : ∀ k, rcF P k = true → S.2.1 k = true :=
  rc_in hn hl (X := fun k => S.2.1 k = true) h0 (fun k _ q => ⟨fun r => ((hE k q).1 r).1, fun r => ((hE k q).2.1 r).1, fun j r => ((hE k q).2.2 j r).1⟩)
/-- two that are done are the same -/
theorem fin_eq {P : pT} {T : tT} {B : cS} (hG : pG P T) (hl : (lfM P).1 = 0) {S S' : sS} (hS : sI P T (hhF P) (rcF P) B S) (hS' : sI P T (hhF P) (rcF P) B S') (hE : ∀ k, S.2.1 k = true → EdF P T (S.1 k) S k) (hE' : ∀ k, S'.2.1 k = true → EdF P T (S'.1 k) S' k) (h0 : S.2.1 0 = true ∧ cle T B (S.1 0)) (h0' : S'.2.1 0 = true ∧ cle T B (S'.1 0)) : sEq S S' := by
  have hn := hG.2.1.1
  have a := all_of (B := B) hn hl h0.1 hE
  have a' := all_of (B := B) hn hl h0'.1 hE'
  have L := sol_of hS hE h0.2 a
  have L' := sol_of hS' hE' h0'.2 a'
  intro k _
  refine ⟨?_, fun q => ?_⟩
  · cases x : S.2.1 k <;> cases y : S'.2.1 k
    · rfl
    · rw [a k (hS'.1 k y).1] at x; cases x
    · rw [a' k (hS.1 k x).1] at y; cases y
    · rfl
  · have x := a k (hS'.1 k q).1
    have e := cle_a hG.1 (hS.2 _ L' k x) (hS'.2 _ L k q)
    exact ⟨e.1, fun j hj => e.2 j (by rw [e.1]; exact hj)⟩
/-! the reference -/
def sM (P : pT) (T : tT) (h : Nat → Nat) (rc : Nat → Bool) (B : cS) (S : sS) : Prop := sI P T h rc B S ∧ S.2.1 0 = true ∧ cle T B (S.1 0)
theorem sb_ok {P : pT} {T : tT} {h : Nat → Nat} {rc : Nat → Bool} {B : cS} (hG : pG P T) (hH : pH P h rc) {S : sS} (hS : sI P T h rc B S) (k : Nat) : sle T S (sbA P T S k) ∧ sI P T h rc B (sbA P T S k) ∧ (S.2.1 k = true → EdF P T (S.1 k) (sbA P T S k) k) := by
  unfold sbA
  split
  · next q =>
    have := br_ok hG hH hS q
    exact ⟨this.1, this.2.1, fun _ => this.2.2⟩
  · next q => exact ⟨sle.rf, hS, fun r => absurd r q⟩
theorem sb_fold {P : pT} {T : tT} {h : Nat → Nat} {rc : Nat → Bool} {B : cS} (hG : pG P T) (hH : pH P h rc) : ∀ (m i : Nat) (S : sS), sI P T h rc B S → sle T S (foR (sbA P T) m i S) ∧ sI P T h rc B (foR (sbA P T) m i S) ∧ ∀ k, i ≤ k → k < i + m → S.2.1 k = true → EdF P T (S.1 k) (foR (sbA P T) m i S) k := by
  have hO := hG.1
  intro m
  induction m with
  | zero => intro i S hS; exact ⟨sle.rf, hS, fun k h1 h2 => by omega⟩
  | succ m ih =>
    intro i S hS
    have h1 := sb_ok hG hH hS i
    have h2 := ih (i + 1) _ h1.2.1
    refine ⟨h1.1.tr hO h2.1, h2.2.1, fun k a b hk => ?_⟩
    by_cases e : k = i
    · subst e; exact (h1.2.2 hk).mo hO h2.1
    · have hx := h1.1.1 k hk
      have := h2.2.2 k (by omega) (by omega) hx.1
      have a1 := hS.1 k hk
      have a2 := h1.2.1.1 k hx.1
      have b1 := hH.2.2 k a1.1
      have hmo := ps_mon hG hx.2 a1.2.2 a2.2.2 (k := k) (by rw [a1.2.1]; exact b1.2.1) (by rw [a1.2.1]; exact b1.2.2.1)
      exact ⟨fun q => ⟨(this.1 q).1, cle_t hO hmo (this.1 q).2⟩, fun q => ⟨(this.2.1 q).1, cle_t hO hmo (this.2.1 q).2⟩, fun j q => ⟨(this.2.2 j q).1, cle_t hO (hd_mo hx.2 _) (this.2.2 j q).2⟩⟩
theorem rb_ok {P : pT} {T : tT} {h : Nat → Nat} {rc : Nat → Bool} {B : cS} (hG : pG P T) (hH : pH P h rc) {S : sS} (hS : sM P T h rc B S) : sM P T h rc B (rbA P T S) ∧ ((rbA P T S).2.2.2.1 = true → muS (rbA P T S) < muS S) ∧ ((rbA P T S).2.2.2.1 = false → ∀ k, (rbA P T S).2.1 k = true → EdF P T ((rbA P T S).1 k) (rbA P T S) k) := by
  have hO := hG.1
  have hI : sI P T h rc B (S.1, S.2.1, S.2.2.1, false, S.2.2.2.2) := hS.1
  have h1 := sb_fold hG hH (pn P) 0 _ hI
  have e1 : foR (sbA P T) (pn P) 0 (S.1, S.2.1, S.2.2.1, false, S.2.2.2.2) = rbA P T S := rfl
  rw [e1] at h1
  have e3 : muS (S.1, S.2.1, S.2.2.1, false, S.2.2.2.2) = muS S := rfl
  obtain ⟨⟨a1, a2, a3, a4, a5, a6, a7, a8, a9⟩, b, c⟩ := h1
  refine ⟨⟨b, (a1 0 hS.2.1).1, cle_t hO hS.2.2 (a1 0 hS.2.1).2⟩, fun q => ?_, fun q k hk => ?_⟩
  · rcases a6 q with r | r
    · cases r
    · rw [e3] at r; exact r
  · obtain ⟨x1, x2⟩ := a8 q
    have x1 : (rbA P T S).1 = S.1 := x1
    have x2 : (rbA P T S).2.1 = S.2.1 := x2
    have hk' : S.2.1 k = true := by rw [← x2]; exact hk
    have := c k (Nat.zero_le _) (by have := (hH.2.2 k (b.1 k hk).1).1; omega) hk'
    rw [x1]; exact this
theorem sM_0 {P : pT} {T : tT} {h : Nat → Nat} {rc : Nat → Bool} {B : cS} (hG : pG P T) (hH : pH P h rc) (hB1 : B.1 = 0) (hBg : gC P T B) : sM P T h rc B (mtA T (pn P) n0A 0 B) := by
  have h1 := mt_ok hG hH (sI_0 (S := n0A) (B := B) (h := h) (rc := rc) (P := P) (T := T) (fun _ => rfl)) (e_0 hH hB1 hBg)
  exact ⟨h1.2.1, h1.2.2⟩

/-! rows that are as they must be stay so -/
theorem jn_2 {T : tT} (hO : tOk T) {a b : Nat} : jnA T a b = 2 ↔ a = 2 ∧ b = 2 := by
  unfold jnA
  by_cases e : a = b
  · rw [if_pos e]; omega
  · rw [if_neg e]
    split
    · next q =>
      have q1 := rfK_e hO q.1
      have q2 := rfK_e hO q.2
      split
      · omega
      · split <;> omega
    · omega
theorem jn_3 {T : tT} (hO : tOk T) {a b : Nat} : jnA T a b = 3 ↔ a = 3 ∧ b = 3 := by
  unfold jnA
  by_cases e : a = b
  · rw [if_pos e]; omega
  · rw [if_neg e]
    split
    · next q =>
      have q1 := rfK_e hO q.1
      have q2 := rfK_e hO q.2
      split
      · omega
      · split <;> omega
    · omega
theorem thK_n {T : tT} {a : Nat} (h : rfK T a = true) (h4 : ¬ a = 4) : a - 100 < tc T ∧ 100 ≤ a := by
  simp [rfK, thK, h4] at h; omega
theorem vK_jn {P : pT} {T : tT} (hO : tOk T) {a b : Nat} (ha : vK P T a) (hb : vK P T b) : vK P T (jnA T a b) := by
  unfold jnA
  split
  · exact ha
  · split
    · next q =>
      split
      · exact hb
      · split
        · exact ha
        · next h4 h5 => exact vK_t (neA_lt hO (thK_n q.1 h4).1 (thK_n q.2 h5).1)
    · exact vK_0
theorem gC_jw {P : pT} {T : tT} (hO : tOk T) {c e : cS} (hc : gC P T c) (he : gC P T e) (h : c.1 = e.1) : gC P T (jwA T c e) := by
  have hk : ∀ j, j < 8 + c.1 → (jwA T c e).2 j = jnA T (c.2 j) (e.2 j) := fun j hj => by
    rw [jwA_at hj]; unfold kA; rw [if_pos (by omega)]
  have h1 : (jwA T c e).1 = c.1 := rfl
  refine ⟨hc.1, fun j hj => ?_, ?_, ?_, ?_, ?_⟩
  · rw [hk j hj]; exact vK_jn hO (hc.2.1 j hj) (he.2.1 j (by rw [← h]; exact hj))
  · intro j hj h7
    rw [h1] at hj
    rw [hk j (by omega), hk (j + 1) hj, jn_2 hO, jn_3 hO, hc.2.2.1 j hj h7, he.2.2.1 j (by omega) h7]
  · rw [hk 7 (by omega), Ne, jn_2 hO]; exact fun q => hc.2.2.2.1 q.1
  · rw [hk 0 (by omega), Ne, jn_3 hO]; exact fun q => hc.2.2.2.2.1 q.1
  · rw [h1]
    intro q
    rw [hk 8 (by omega), hk (7 + c.1) (by omega), Ne, Ne, jn_3 hO, jn_2 hO]
    exact ⟨fun r => (hc.2.2.2.2.2 q).1 r.1, fun r => (hc.2.2.2.2.2 q).2 r.1⟩
theorem gC_0 {P : pT} {T : tT} {h : Nat} (h6 : h ≤ 6) : gC P T (h, fun _ => 0) := by
  refine ⟨h6, fun _ _ => vK_0, fun j _ _ => ?_, ?_, ?_, fun _ => ⟨?_, ?_⟩⟩ <;> simp
theorem gC_hd {P : pT} {T : tT} {c : cS} (hc : gC P T c) {t : Nat} (ht : t < tc T) : gC P T (1, va_up c.2 8 (100 + t)) := by
  refine ⟨(by decide : (1 : Nat) ≤ 6), fun j hj => ?_, fun j hj h7 => ?_, ?_, ?_, fun _ => ⟨?_, ?_⟩⟩ <;> simp only [va_up]
  · have hj2 : j < 8 + 1 := hj
    split
    · exact vK_t ht
    · exact hc.2.1 j (by omega)
  · have hj2 : j + 1 < 8 + 1 := hj
    rw [if_neg (by omega), if_neg (by omega)]
    exact hc.2.2.1 j (by omega) h7
  · exact hc.2.2.2.1
  · exact hc.2.2.2.2.1
  · rw [if_pos trivial]; omega
  · rw [if_pos trivial]; omega
theorem wkA_1 {T : tT} {o q k t : Nat} (ho : o ≤ 20) {c : cS} (h1 : tkA o ≤ c.1) (h2 : c.1 - tkA o + gvA o ≤ 6) : (wkA o q k t c).1 = c.1 - tkA o + gvA o := by
  have hp : ∀ m q, c.1 - m < 6 → (psA (drA c m) q).1 = c.1 - m + 1 := fun m q h => psA_1 (c := drA c m) h
  have hp2 : ∀ m q r, c.1 - m + 1 < 6 → (psA (psA (drA c m) q) r).1 = c.1 - m + 2 := fun m q r h => by
    rw [psA_1 (by rw [hp m q (by omega)]; exact h), hp m q (by omega)]
  have hc : o = 0 ∨ o = 1 ∨ o = 2 ∨ o = 3 ∨ o = 4 ∨ o = 5 ∨ o = 6 ∨ o = 7 ∨ o = 8 ∨ o = 9 ∨ o = 10 ∨ o = 11 ∨ o = 12 ∨ o = 13 ∨ o = 14 ∨ o = 15 ∨ o = 16 ∨ o = 17 ∨ o = 18 ∨ o = 19 ∨ o = 20 := by omega
  rcases hc with rfl | rfl | rfl | rfl | rfl | rfl | rfl | rfl | rfl | rfl | rfl | rfl | rfl | rfl | rfl | rfl | rfl | rfl | rfl | rfl | rfl <;> simp only [tkA, gvA, List.getD_cons_zero, List.getD_cons_succ] at h1 h2 ⊢
  · rw [wk0, hp 0 _ (by omega)]
  · rw [wk1, hp2 0 _ _ (by omega)]
  · rw [wk2, hp 0 _ (by omega)]
  · rw [wk3, hp 0 _ (by omega)]
  · rw [wk4, hp2 0 _ _ (by omega)]
  · rw [wk5, soA_1]; rfl
  · rw [wk6, slA_1]; rfl
  · rw [wk7]; rfl
  · rw [wk8]; rfl
  · rw [wk9, hp2 1 _ _ (by omega)]
  · rw [wk10, hp 2 _ (by omega)]
  · rw [wk11, hp2 4 _ _ (by omega)]
  · rw [wk12, psA_1 (c := rpA (drA c 0) (200 + k) 0) (show c.1 - 0 < 6 by omega)]; rfl
  · rw [wk13]; rfl
  · rw [wk14, hp 1 _ (by omega)]
  · rw [wk15]; rfl
  · rw [wk16]; rfl
  · rw [wk17]; rfl
  · rw [wk18]; rfl
  · rw [wk19]; rfl
  · rw [wk20]; rfl
/-- the program and its TYPES, as they always are -/
def pG (P : pT) (T : tT) : Prop := tOk T ∧ (pn P ≤ 30 ∧ qn P ≤ 4) ∧ (∀ k, k < pn P → po P k ≤ 20) ∧ (∀ j, j < qn P → qf P j < qt P j ∧ qt P j ≤ 30 ∧ qa P j < 30 ∧ qk P j < 8) ∧ pNum P ∧ pTy P T
theorem kOk.g {K : kS} (h : kOk K) : pG K.2.1 K.1 := ⟨h.1, h.2.1, h.2.2.1, h.2.2.2.1, h.2.2.2.2.1, h.2.2.2.2.2.1⟩
theorem op_20 {P : pT} {T : tT} (h : pG P T) (k : Nat) : opA P k ≤ 20 := by
  unfold opA; split
  · next q => exact h.2.2.1 k q
  · decide
/-- the sizes of THE PILE hang together: where ways lead, the size is that of the way -/
def pH (P : pT) (h : Nat → Nat) (rc : Nat → Bool) : Prop := rc 0 = true ∧ h 0 = 0 ∧ ∀ k, rc k = true → k < pn P ∧ tkA (opA P k) ≤ h k ∧ h k - tkA (opA P k) + gvA (opA P k) ≤ 6 ∧ (goA P k = true → rc (k + 1) = true ∧ h (k + 1) = h k - tkA (opA P k) + gvA (opA P k)) ∧ (juA P k = true → rc (nuN P k) = true ∧ h (nuN P k) = h k - tkA (opA P k) + gvA (opA P k)) ∧ (∀ j, cvA P j k = true → rc (qa P j) = true ∧ h (qa P j) = 1)
def nOk (P : pT) (T : tT) (h : Nat → Nat) (rc : Nat → Bool) (S : sS) : Prop := ∀ k, S.2.1 k = true → rc k = true ∧ (S.1 k).1 = h k ∧ gC P T (S.1 k)
theorem nOk.mt {P : pT} {T : tT} {h : Nat → Nat} {rc : Nat → Bool} {S : sS} {m n : Nat} {e : cS} (hO : tOk T) (hS : nOk P T h rc S) (hm : rc m = true) (he : e.1 = h m) (hg : gC P T e) : nOk P T h rc (mtA T n S m e) := by
  by_cases hmn : m < n
  · intro k
    rw [mtA_1 hmn, mtA_2 hmn]
    unfold va_up
    by_cases q : k = m
    · subst q
      simp only [if_true]
      intro _
      refine ⟨hm, ?_⟩
      unfold jnW
      split
      · next r =>
        have := hS k r
        exact ⟨this.2.1, gC_jw hO this.2.2 hg (by rw [this.2.1, he])⟩
      · exact ⟨he, hg⟩
    · simp only [if_neg q]
      exact hS k
  · unfold mtA; rw [if_neg hmn]; exact hS
theorem nOk.cg {P : pT} {T : tT} {h : Nat → Nat} {rc : Nat → Bool} {S S' : sS} (hS : nOk P T h rc S) (h1 : S'.1 = S.1) (h2 : S'.2.1 = S.2.1) : nOk P T h rc S' := by
  unfold nOk; rw [h1, h2]; exact hS
theorem psC_ok {P : pT} {T : tT} (hG : pG P T) {k : Nat} {c : cS} (hg : gC P T c) (h1 : tkA (opA P k) ≤ c.1) (h2 : c.1 - tkA (opA P k) + gvA (opA P k) ≤ 6) : gC P T (psC P T k c) ∧ (psC P T k c).1 = c.1 - tkA (opA P k) + gvA (opA P k) := by
  unfold psC paA
  split
  · next q => exact ⟨gC_wk hG.2.2.2.2.1 hG.2.2.2.2.2 hG.1 (op_20 hG k) hg q h1 h2, wkA_1 (T := T) (op_20 hG k) h1 h2⟩
  · exact ⟨gC_0 h2, rfl⟩
theorem mtA_k {T : tT} {n : Nat} {S : sS} {i : Nat} {e : cS} {k : Nat} (h : S.2.1 k = true) : (mtA T n S i e).2.1 k = true := by
  by_cases hi : i < n
  · rw [mtA_2 hi]; unfold va_up; split
    · rfl
    · exact h
  · unfold mtA; rw [if_neg hi]; exact h
/-- what the reference does at an INSTRUCTION: HANDLERS first -/
def brA (P : pT) (T : tT) (S : sS) (k : Nat) : sS := sv3 P T (sv2 P T (sv1 P T (foR (sv4 P T k) (qn P) 0 S) k) k) k
def sbA (P : pT) (T : tT) (S : sS) (k : Nat) : sS := if S.2.1 k = true then brA P T S k else S
def rbA (P : pT) (T : tT) (S : sS) : sS := foR (sbA P T) (pn P) 0 (S.1, S.2.1, S.2.2.1, false, S.2.2.2.2)
theorem nOk.s4 {P : pT} {T : tT} {h : Nat → Nat} {rc : Nat → Bool} {S : sS} {k j : Nat} (hG : pG P T) (hH : pH P h rc) (hS : nOk P T h rc S) (hk : S.2.1 k = true) : nOk P T h rc (sv4 P T k S j) ∧ (sv4 P T k S j).2.1 k = true := by
  unfold sv4
  split
  · next q =>
    have hq : j < qn P := by unfold cvA at q; simp at q; exact q.1.1
    have hr := hS k hk
    have h1 := (hH.2.2 k hr.1).2.2.2.2.2 j q
    have hs : nOk P T h rc (sh S (1, va_up (S.1 k).2 8 (100 + qk P j))) := hS
    exact ⟨hs.mt hG.1 h1.1 h1.2.symm (gC_hd hr.2.2 (hG.2.2.2.2.2.2 j hq)), mtA_k hk⟩
  · exact ⟨hS, hk⟩
theorem nOk.s23 {P : pT} {T : tT} {h : Nat → Nat} {rc : Nat → Bool} {S : sS} {k : Nat} (hG : pG P T) (hH : pH P h rc) (hS : nOk P T h rc S) (hk : S.2.1 k = true) : nOk P T h rc (sv3 P T (sv2 P T (sv1 P T S k) k) k) ∧ (sv3 P T (sv2 P T (sv1 P T S k) k) k).2.1 k = true := by
  have hr := hS k hk
  have hh := hH.2.2 k hr.1
  have hp := psC_ok hG hr.2.2 (k := k) (by rw [hr.2.1]; exact hh.2.1) (by rw [hr.2.1]; exact hh.2.2.1)
  rw [hr.2.1] at hp
  have h1 : nOk P T h rc (sv1 P T S k) ∧ (sv1 P T S k).2.1 k = true ∧ (sv1 P T S k).2.2.2.2 = psC P T k (S.1 k) := ⟨hS, hk, rfl⟩
  have h2 : nOk P T h rc (sv2 P T (sv1 P T S k) k) ∧ (sv2 P T (sv1 P T S k) k).2.1 k = true ∧ (sv2 P T (sv1 P T S k) k).2.2.2.2 = psC P T k (S.1 k) := by
    unfold sv2
    split
    · next q =>
      refine ⟨h1.1.mt hG.1 (hh.2.2.2.1 q).1 (by rw [h1.2.2, hp.2]; exact (hh.2.2.2.1 q).2.symm) (by rw [h1.2.2]; exact hp.1), mtA_k hk, ?_⟩
      unfold mtA
      split
      · split
        · rfl
        · split <;> rfl
      · rfl
    · exact h1
  generalize sv2 P T (sv1 P T S k) k = S2 at h2 ⊢
  unfold sv3
  split
  · next q => exact ⟨h2.1.mt hG.1 (hh.2.2.2.2.1 q).1 (by rw [h2.2.2, hp.2]; exact (hh.2.2.2.2.1 q).2.symm) (by rw [h2.2.2]; exact hp.1), mtA_k h2.2.1⟩
  · exact ⟨h2.1, h2.2.1⟩
theorem foR_ind {α : Type} {f : α → Nat → α} {I : α → Prop} (hf : ∀ a j, I a → I (f a j)) : ∀ (n i : Nat) (a : α), I a → I (foR f n i a) := by
  intro n
  induction n with
  | zero => intro i a h; exact h
  | succ n ih => intro i a h; exact ih (i + 1) _ (hf a i h)
theorem nOk.s4s {P : pT} {T : tT} {h : Nat → Nat} {rc : Nat → Bool} {S : sS} {k n i : Nat} (hG : pG P T) (hH : pH P h rc) (hS : nOk P T h rc S) (hk : S.2.1 k = true) : nOk P T h rc (foR (sv4 P T k) n i S) ∧ (foR (sv4 P T k) n i S).2.1 k = true :=
  foR_ind (I := fun S => nOk P T h rc S ∧ S.2.1 k = true) (fun _ _ q => q.1.s4 hG hH q.2) n i S ⟨hS, hk⟩
theorem nOk.br {P : pT} {T : tT} {h : Nat → Nat} {rc : Nat → Bool} {S : sS} {k : Nat} (hG : pG P T) (hH : pH P h rc) (hS : nOk P T h rc S) (hk : S.2.1 k = true) : nOk P T h rc (brA P T S k) := by
  have := hS.s4s (n := qn P) (i := 0) hG hH hk
  exact (this.1.s23 hG hH this.2).1
theorem nOk.sv {P : pT} {T : tT} {h : Nat → Nat} {rc : Nat → Bool} {S : sS} {k : Nat} (hG : pG P T) (hH : pH P h rc) (hS : nOk P T h rc S) (hk : S.2.1 k = true) : nOk P T h rc (svA P T S k) := by
  have := hS.s23 hG hH hk
  exact (this.1.s4s hG hH this.2).1

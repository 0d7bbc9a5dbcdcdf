/-! KINDS and rows, from what says more to what says less -/
def kle (T : tT) (a b : Nat) : Prop := a = b ∨ b = 0 ∨ (rfK T a = true ∧ rfK T b = true ∧ (a = 4 ∨ (¬ a = 4 ∧ ¬ b = 4 ∧ neA T (a - 100) (b - 100) = b - 100)))
theorem kle_r {T : tT} (a : Nat) : kle T a a := Or.inl rfl
theorem kle_0 {T : tT} (a : Nat) : kle T a 0 := Or.inr (Or.inl rfl)
theorem rf_n0 {T : tT} {a : Nat} (h : rfK T a = true) : ¬ a = 0 := by
  intro e; subst e; simp [rfK, thK] at h
theorem kle_t {T : tT} (hO : tOk T) {a b c : Nat} (h1 : kle T a b) (h2 : kle T b c) : kle T a c := by
  rcases h1 with rfl | rfl | ⟨p1, p2, p3⟩
  · exact h2
  · rcases h2 with rfl | rfl | ⟨q1, _, _⟩
    · exact kle_0 _
    · exact kle_0 _
    · exact absurd rfl (rf_n0 q1)
  · rcases h2 with rfl | rfl | ⟨q1, q2, q3⟩
    · exact Or.inr (Or.inr ⟨p1, p2, p3⟩)
    · exact kle_0 _
    · refine Or.inr (Or.inr ⟨p1, q2, ?_⟩)
      rcases p3 with e | ⟨e1, e2, e3⟩
      · exact Or.inl e
      · rcases q3 with f | ⟨f1, f2, f3⟩
        · exact absurd f e2
        · exact Or.inr ⟨e1, f2, ne_t hO (thK_n p1 e1).1 (thK_n p2 e2).1 (thK_n q2 f2).1 e3 f3⟩
theorem kle_a {T : tT} (hO : tOk T) {a b : Nat} (h1 : kle T a b) (h2 : kle T b a) : a = b := by
  rcases h1 with e | e | ⟨p1, p2, p3⟩
  · exact e
  · subst e
    rcases h2 with e | e | ⟨q1, q2, _⟩
    · exact e.symm
    · exact e
    · exact absurd rfl (rf_n0 q1)
  · rcases h2 with e | e | ⟨q1, q2, q3⟩
    · exact e.symm
    · subst e; exact absurd rfl (rf_n0 p1)
    · rcases p3 with e | ⟨e1, e2, e3⟩
      · rcases q3 with f | ⟨f1, f2, f3⟩
        · rw [e, f]
        · exact absurd e f2
      · rcases q3 with f | ⟨f1, f2, f3⟩
        · exact absurd f e2
        · have x := ne_c T (a - 100) (b - 100)
          rw [e3, f3] at x
          have := (thK_n p1 e1).2
          have := (thK_n p2 e2).2
          omega
theorem jn_4 {T : tT} {a b : Nat} (h : ¬ a = b) (ha : rfK T a = true) (hb : rfK T b = true) : jnA T a b = if a = 4 then b else if b = 4 then a else 100 + neA T (a - 100) (b - 100) := by
  unfold jnA; rw [if_neg h, if_pos ⟨ha, hb⟩]
theorem rf_t {T : tT} {t : Nat} (h : t < tc T) : rfK T (100 + t) = true ∧ ¬ 100 + t = 4 := ⟨by simp [rfK, thK, h], by omega⟩
theorem jn_l {T : tT} (hO : tOk T) {a b : Nat} : kle T a (jnA T a b) := by
  by_cases e : a = b
  · unfold jnA; rw [if_pos e]; exact kle_r _
  · by_cases h : rfK T a = true ∧ rfK T b = true
    · rw [jn_4 e h.1 h.2]
      split
      · next e4 => exact Or.inr (Or.inr ⟨h.1, h.2, Or.inl e4⟩)
      · next e4 =>
        split
        · exact kle_r _
        · next e5 =>
          have h1 := (thK_n h.1 e4).1
          have h2 := (thK_n h.2 e5).1
          have h3 := neA_lt hO h1 h2
          refine Or.inr (Or.inr ⟨h.1, (rf_t h3).1, Or.inr ⟨e4, (rf_t h3).2, ?_⟩⟩)
          rw [show 100 + neA T (a - 100) (b - 100) - 100 = neA T (a - 100) (b - 100) by omega]
          exact ne_u hO h1 h2
    · unfold jnA; rw [if_neg e, if_neg h]; exact kle_0 _
theorem jn_c {T : tT} (a b : Nat) : jnA T a b = jnA T b a := by
  by_cases e : a = b
  · rw [e]
  · have e' : ¬ b = a := fun q => e q.symm
    by_cases h : rfK T a = true ∧ rfK T b = true
    · rw [jn_4 e h.1 h.2, jn_4 e' h.2 h.1]
      by_cases e4 : a = 4
      · by_cases e5 : b = 4
        · omega
        · rw [if_pos e4, if_neg e5, if_pos e4]
      · by_cases e5 : b = 4
        · rw [if_neg e4, if_pos e5, if_pos e5]
        · rw [if_neg e4, if_neg e5, if_neg e5, if_neg e4, ne_c]
    · have h1 : jnA T a b = 0 := by unfold jnA; rw [if_neg e, if_neg h]
      have h2 : jnA T b a = 0 := by unfold jnA; rw [if_neg e', if_neg (show ¬ (rfK T b = true ∧ rfK T a = true) from fun q => h ⟨q.2, q.1⟩)]
      rw [h1, h2]
theorem jn_r {T : tT} (hO : tOk T) {a b : Nat} : kle T b (jnA T a b) := by rw [jn_c]; exact jn_l hO
theorem jn_u {T : tT} (hO : tOk T) {a b x : Nat} (h1 : kle T a x) (h2 : kle T b x) : kle T (jnA T a b) x := by
  by_cases e : a = b
  · unfold jnA; rw [if_pos e]; exact h1
  · rcases h1 with rfl | rfl | ⟨p1, p2, p3⟩
    · -- x = a
      rcases h2 with q | q | ⟨q1, q2, q3⟩
      · exact absurd q.symm e
      · subst q; exact kle_0 _
      · rw [jn_4 e q2 q1]
        rcases q3 with f | ⟨f1, f2, f3⟩
        · by_cases e4 : a = 4
          · omega
          · rw [if_neg e4, if_pos f]; exact kle_r _
        · rw [if_neg f2, if_neg f1]
          have := (thK_n q2 f2).2
          rw [ne_c, f3, show 100 + (a - 100) = a by omega]
          exact kle_r _
    · exact kle_0 _
    · rcases h2 with q | q | ⟨q1, q2, q3⟩
      · subst q
        rw [jn_4 e p1 p2]
        rcases p3 with f | ⟨f1, f2, f3⟩
        · rw [if_pos f]; exact kle_r _
        · rw [if_neg f1, if_neg f2, f3]
          have := (thK_n p2 f2).2
          rw [show 100 + (b - 100) = b by omega]
          exact kle_r _
      · exact absurd q (rf_n0 p2)
      · rw [jn_4 e p1 q1]
        by_cases e4 : a = 4
        · rw [if_pos e4]; exact Or.inr (Or.inr ⟨q1, q2, q3⟩)
        · rw [if_neg e4]
          by_cases e5 : b = 4
          · rw [if_pos e5]; exact Or.inr (Or.inr ⟨p1, p2, p3⟩)
          · rw [if_neg e5]
            rcases p3 with f | ⟨f1, f2, f3⟩
            · exact absurd f e4
            · rcases q3 with g | ⟨g1, g2, g3⟩
              · exact absurd g e5
              · have h1 := (thK_n p1 e4).1
                have h2 := (thK_n q1 e5).1
                have h3 := (thK_n p2 f2).1
                have h4 := neA_lt hO h1 h2
                refine Or.inr (Or.inr ⟨(rf_t h4).1, p2, Or.inr ⟨(rf_t h4).2, f2, ?_⟩⟩)
                rw [show 100 + neA T (a - 100) (b - 100) - 100 = neA T (a - 100) (b - 100) by omega]
                exact ne_b hO h1 h2 h3 f3 g3
/-- how far a KIND may still go -/
def rkK (a : Nat) : Nat := if a = 0 then 0 else if a = 4 then 9 else if 100 ≤ a ∧ a < 108 then a - 99 else 1
theorem rkK_9 (a : Nat) : rkK a ≤ 9 := by
  unfold rkK; split
  · omega
  · split
    · omega
    · split <;> omega
theorem rk_lt {T : tT} (hO : tOk T) {a b : Nat} (h : kle T a b) (hn : ¬ a = b) : rkK b < rkK a := by
  have h8 := hO.2.1
  rcases h with e | e | ⟨p1, p2, p3⟩
  · exact absurd e hn
  · subst e
    unfold rkK
    rw [if_pos rfl, if_neg hn]
    split
    · omega
    · split <;> omega
  · have x1 := rfK_e hO p1
    have x2 := rfK_e hO p2
    rcases p3 with e | ⟨e1, e2, e3⟩
    · unfold rkK
      rw [if_neg (show ¬ b = 0 by omega), if_neg (show ¬ b = 4 by omega), if_pos (show 100 ≤ b ∧ b < 108 by omega), if_neg (show ¬ a = 0 by omega), if_pos e]
      omega
    · have hl := (ne_l hO (thK_n p1 e1).1 (thK_n p2 e2).1).1
      unfold rkK
      rw [if_neg (show ¬ b = 0 by omega), if_neg e2, if_pos (show 100 ≤ b ∧ b < 108 by omega), if_neg (show ¬ a = 0 by omega), if_neg e1, if_pos (show 100 ≤ a ∧ a < 108 by omega)]
      omega
theorem rk_le {T : tT} (hO : tOk T) {a b : Nat} (h : kle T a b) : rkK b ≤ rkK a := by
  by_cases e : a = b
  · rw [e]; exact Nat.le_refl _
  · exact Nat.le_of_lt (rk_lt hO h e)
/-! rows -/
def cle (T : tT) (c e : cS) : Prop := c.1 = e.1 ∧ ∀ j, j < 8 + c.1 → kle T (c.2 j) (e.2 j)
theorem cle_r {T : tT} (c : cS) : cle T c c := ⟨rfl, fun _ _ => kle_r _⟩
theorem cle_t {T : tT} (hO : tOk T) {c e f : cS} (h1 : cle T c e) (h2 : cle T e f) : cle T c f := ⟨h1.1.trans h2.1, fun j hj => kle_t hO (h1.2 j hj) (h2.2 j (by rw [← h1.1]; exact hj))⟩
theorem cle_a {T : tT} (hO : tOk T) {c e : cS} (h1 : cle T c e) (h2 : cle T e c) : c.1 = e.1 ∧ ∀ j, j < 8 + c.1 → c.2 j = e.2 j := ⟨h1.1, fun j hj => kle_a hO (h1.2 j hj) (h2.2 j (by rw [← h1.1]; exact hj))⟩
theorem jw_2 {T : tT} {c e : cS} (h : c.1 = e.1) {j : Nat} (hj : j < 8 + c.1) : (jwA T c e).2 j = jnA T (c.2 j) (e.2 j) := by
  rw [jwA_at hj]; unfold kA; rw [if_pos (by omega)]
theorem jw_l {T : tT} (hO : tOk T) {c e : cS} (h : c.1 = e.1) : cle T c (jwA T c e) := ⟨rfl, fun j hj => by rw [jw_2 h hj]; exact jn_l hO⟩
theorem jw_r {T : tT} (hO : tOk T) {c e : cS} (h : c.1 = e.1) : cle T e (jwA T c e) := ⟨h.symm, fun j hj => by rw [jw_2 h (by omega)]; exact jn_r hO⟩
theorem jw_u {T : tT} (hO : tOk T) {c e f : cS} (h1 : cle T c f) (h2 : cle T e f) : cle T (jwA T c e) f := ⟨h1.1, fun j hj => by
  have hj' : j < 8 + c.1 := hj
  have h : c.1 = e.1 := h1.1.trans h2.1.symm
  rw [jw_2 h hj']
  exact jn_u hO (h1.2 j hj') (h2.2 j (by omega))⟩
theorem jc_f {T : tT} {c e : cS} (h : jcA T c e (8 + c.1) = false) : jwA T c e = c := by
  have hall : ∀ i, jcA T c e i = false → ∀ j, j < i → (jwA T c e).2 j = c.2 j := by
    intro i
    induction i with
    | zero => intro _ j hj; omega
    | succ i ih =>
      intro q j hj
      rw [jcA_s] at q
      simp at q
      by_cases e : j = i
      · subst e; exact q.2
      · exact ih q.1 j (by omega)
  refine Prod.ext rfl (funext (fun j => ?_))
  by_cases hj : j < 8 + c.1
  · exact hall _ h j hj
  · unfold jwA; simp [hj]
theorem jc_t {T : tT} {c e : cS} (h : jcA T c e (8 + c.1) = true) : ∃ j, j < 8 + c.1 ∧ ¬ c.2 j = (jwA T c e).2 j := by
  have hall : ∀ i, jcA T c e i = true → ∃ j, j < i ∧ ¬ c.2 j = (jwA T c e).2 j := by
    intro i
    induction i with
    | zero => intro q; cases q
    | succ i ih =>
      intro q
      rw [jcA_s] at q
      simp at q
      rcases q with q | q
      · obtain ⟨j, h1, h2⟩ := ih q; exact ⟨j, by omega, h2⟩
      · exact ⟨i, by omega, fun r => q r.symm⟩
  exact hall _ h
def suL (f : Nat → Nat) : Nat → Nat
  | 0 => 0
  | n + 1 => suL f n + f n
theorem suL_le {f g : Nat → Nat} : ∀ (n : Nat), (∀ j, j < n → f j ≤ g j) → suL f n ≤ suL g n
  | 0, _ => Nat.le_refl _
  | n + 1, h => by
    have h1 := suL_le n (fun j hj => h j (by omega))
    have h2 := h n (by omega)
    show suL f n + f n ≤ suL g n + g n
    omega
theorem suL_lt {f g : Nat → Nat} : ∀ (n : Nat), (∀ j, j < n → f j ≤ g j) → (∃ j, j < n ∧ f j < g j) → suL f n < suL g n
  | 0, _, h => by obtain ⟨j, h, _⟩ := h; omega
  | n + 1, h, hx => by
    obtain ⟨j, hj, hl⟩ := hx
    have h2 := h n (by omega)
    show suL f n + f n < suL g n + g n
    by_cases e : j = n
    · subst e
      have h1 := suL_le j (fun i hi => h i (by omega))
      omega
    · have h1 := suL_lt n (fun i hi => h i (by omega)) ⟨j, by omega, hl⟩
      omega
theorem suL_b {f : Nat → Nat} {b : Nat} : ∀ (n : Nat), (∀ j, j < n → f j ≤ b) → suL f n ≤ b * n
  | 0, _ => Nat.zero_le _
  | n + 1, h => by
    have h1 := suL_b n (fun j hj => h j (by omega))
    have h2 := h n (by omega)
    show suL f n + f n ≤ b * (n + 1)
    rw [Nat.mul_add, Nat.mul_one]
    omega
def rkR (c : cS) : Nat := suL (fun j => rkK (c.2 j)) (8 + c.1)
theorem rkR_b {c : cS} (h : c.1 ≤ 6) : rkR c ≤ 126 := by
  have := suL_b (f := fun j => rkK (c.2 j)) (b := 9) (8 + c.1) (fun j _ => rkK_9 _)
  unfold rkR
  omega
theorem rkR_le {T : tT} (hO : tOk T) {c e : cS} (h : cle T c e) : rkR e ≤ rkR c := by
  unfold rkR; rw [← h.1]
  exact suL_le _ (fun j hj => rk_le hO (h.2 j hj))
theorem rkR_lt {T : tT} (hO : tOk T) {c e : cS} (h : cle T c e) (hn : ∃ j, j < 8 + c.1 ∧ ¬ c.2 j = e.2 j) : rkR e < rkR c := by
  unfold rkR; rw [← h.1]
  obtain ⟨j, hj, hne⟩ := hn
  exact suL_lt _ (fun j hj => rk_le hO (h.2 j hj)) ⟨j, hj, rk_lt hO (h.2 j hj) hne⟩
def muS (S : sS) : Nat := suL (fun k => if S.2.1 k = true then rkR (S.1 k) else 141) 30

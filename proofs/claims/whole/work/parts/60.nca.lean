/-! the nearest common ancestor -/
theorem ne_r (T : tT) (i : Nat) : neA T i i = i := by unfold neA; rw [neF, if_pos rfl]
theorem ne_c (T : tT) (i j : Nat) : neA T i j = neA T j i := neF_sy T 16 i j
theorem ne_s {T : tT} (hO : tOk T) {i j : Nat} (hi : i < tc T) (h : j < i) : neA T i j = neA T (tp T i) j := by
  have h8 := hO.2.1
  have := hO.2.2.2.2.1 i (by omega) hi
  have e : neA T i j = neF T 15 (tp T i) j := by unfold neA; rw [neF, if_neg (by omega), if_pos h]
  rw [e, neF_fu hO 15 (tp T i) j (by omega) (by omega) (by omega)]
  rfl
theorem tp_lt {T : tT} (hO : tOk T) {i : Nat} (hi : i < tc T) (h : 0 < i) : tp T i < i := hO.2.2.2.2.1 i h hi
theorem tp_tc {T : tT} (hO : tOk T) {i : Nat} (hi : i < tc T) : tp T i < tc T := by
  by_cases h : i = 0
  · subst h; rw [hO.2.2.2.1]; exact hi
  · have := tp_lt hO hi (by omega); omega
theorem ne_le {T : tT} (hO : tOk T) : ∀ (n i j : Nat), i + j < n → i < tc T → j < tc T → neA T i j ≤ i ∧ neA T i j ≤ j := by
  intro n
  induction n with
  | zero => intro i j h; omega
  | succ n ih =>
    intro i j h hi hj
    rcases Nat.lt_trichotomy i j with q | q | q
    · have := tp_lt hO hj (by omega)
      rw [ne_c, ne_s hO hj q, ne_c]
      have := ih i (tp T j) (by omega) hi (by omega)
      omega
    · subst q; rw [ne_r]; omega
    · have := tp_lt hO hi (by omega)
      rw [ne_s hO hi q]
      have := ih (tp T i) j (by omega) (by omega) hj
      omega
theorem ne_l {T : tT} (hO : tOk T) {i j : Nat} (hi : i < tc T) (hj : j < tc T) : neA T i j ≤ i ∧ neA T i j ≤ j := ne_le hO (i + j + 1) i j (by omega) hi hj
theorem ne_0 {T : tT} (hO : tOk T) {j : Nat} (hj : j < tc T) : neA T 0 j = 0 := by
  have := ne_l hO (i := 0) (by omega) hj; omega
theorem ne_ub {T : tT} (hO : tOk T) : ∀ (n i j : Nat), i + j < n → i < tc T → j < tc T → neA T i (neA T i j) = neA T i j := by
  intro n
  induction n with
  | zero => intro i j h; omega
  | succ n ih =>
    intro i j h hi hj
    rcases Nat.lt_trichotomy i j with q | q | q
    · have := tp_lt hO hj (by omega)
      rw [show neA T i j = neA T i (tp T j) by rw [ne_c, ne_s hO hj q, ne_c]]
      exact ih i (tp T j) (by omega) hi (by omega)
    · subst q; rw [ne_r, ne_r]
    · have h1 := tp_lt hO hi (by omega)
      have h2 := ne_l hO (i := tp T i) (by omega) hj
      rw [show neA T i j = neA T (tp T i) j from ne_s hO hi q, ne_s hO hi (by omega)]
      exact ih (tp T i) j (by omega) (by omega) hj
theorem ne_u {T : tT} (hO : tOk T) {i j : Nat} (hi : i < tc T) (hj : j < tc T) : neA T i (neA T i j) = neA T i j := ne_ub hO (i + j + 1) i j (by omega) hi hj
theorem ne_tr {T : tT} (hO : tOk T) {j k : Nat} (hj : j < tc T) (hk : k < tc T) (h2 : neA T j k = k) : ∀ (n i : Nat), i < n → i < tc T → neA T i j = j → neA T i k = k := by
  intro n
  induction n with
  | zero => intro i h; omega
  | succ n ih =>
    intro i h hi h1
    have l1 := ne_l hO hi hj
    have l2 := ne_l hO hj hk
    rw [h1] at l1
    rw [h2] at l2
    by_cases e : i = j
    · subst e; exact h2
    · have h3 := tp_lt hO hi (by omega)
      have h4 := ne_s hO hi (show j < i by omega)
      rw [ne_s hO hi (show k < i by omega)]
      exact ih (tp T i) (by omega) (by omega) (by rw [← h4]; exact h1)
theorem ne_t {T : tT} (hO : tOk T) {i j k : Nat} (hi : i < tc T) (hj : j < tc T) (hk : k < tc T) (h1 : neA T i j = j) (h2 : neA T j k = k) : neA T i k = k := ne_tr hO hj hk h2 (i + 1) i (by omega) hi h1
theorem ne_lub {T : tT} (hO : tOk T) {k : Nat} (hk : k < tc T) : ∀ (n i j : Nat), i + j < n → i < tc T → j < tc T → neA T i k = k → neA T j k = k → neA T (neA T i j) k = k := by
  intro n
  induction n with
  | zero => intro i j h; omega
  | succ n ih =>
    intro i j h hi hj h1 h2
    have l1 := ne_l hO hi hk
    have l2 := ne_l hO hj hk
    rw [h1] at l1
    rw [h2] at l2
    rcases Nat.lt_trichotomy i j with q | q | q
    · have := tp_lt hO hj (by omega)
      rw [show neA T i j = neA T i (tp T j) by rw [ne_c, ne_s hO hj q, ne_c]]
      exact ih i (tp T j) (by omega) hi (by omega) h1 (by rw [← ne_s hO hj (by omega)]; exact h2)
    · subst q; rw [ne_r]; exact h1
    · have := tp_lt hO hi (by omega)
      rw [show neA T i j = neA T (tp T i) j from ne_s hO hi q]
      exact ih (tp T i) j (by omega) (by omega) hj (by rw [← ne_s hO hi (by omega)]; exact h1) h2
theorem ne_b {T : tT} (hO : tOk T) {i j k : Nat} (hi : i < tc T) (hj : j < tc T) (hk : k < tc T) (h1 : neA T i k = k) (h2 : neA T j k = k) : neA T (neA T i j) k = k := ne_lub hO hk (i + j + 1) i j (by omega) hi hj h1 h2
theorem ne_upn {T : tT} (hO : tOk T) : ∀ (n t b : Nat), t + b < n → t < tc T → b < tc T → 0 < t → neA T t b ≠ t → neA T (tp T t) b = neA T t b := by
  intro n
  induction n with
  | zero => intro t b h; omega
  | succ n ih =>
    intro t b h ht hb h0 hn
    have h1 := tp_lt hO ht h0
    rcases Nat.lt_trichotomy t b with q | q | q
    · have h2 := tp_lt hO hb (by omega)
      have e1 : neA T t b = neA T t (tp T b) := by rw [ne_c, ne_s hO hb q, ne_c]
      have e2 : neA T (tp T t) b = neA T (tp T t) (tp T b) := by rw [ne_c, ne_s hO hb (by omega), ne_c]
      rw [e1, e2]
      exact ih t (tp T b) (by omega) ht (by omega) h0 (by rw [← e1]; exact hn)
    · subst q; exact absurd (ne_r T t) hn
    · exact (ne_s hO ht q).symm
theorem ne_up {T : tT} (hO : tOk T) {t b : Nat} (ht : t < tc T) (hb : b < tc T) (h0 : 0 < t) (hn : neA T t b ≠ t) : neA T (tp T t) b = neA T t b := ne_upn hO (t + b + 1) t b (by omega) ht hb h0 hn
/-! the reference's memory: what a call leaves as it is -/
def mo (cs fs : List Nat) (σ σ' : mc_G) : Prop := (∀ b, b ≠ 167 → ¬ b ∈ cs → σ' b = σ b) ∧ (∀ i, ¬ i ∈ fs → σ' 167 i = σ 167 i)
theorem mo.rf {cs fs : List Nat} {σ : mc_G} : mo cs fs σ σ := ⟨fun _ _ _ => rfl, fun _ _ => rfl⟩
theorem mo.tr {cs fs : List Nat} {σ σ1 σ2 : mc_G} (a : mo cs fs σ σ1) (k : mo cs fs σ1 σ2) : mo cs fs σ σ2 := ⟨fun b h1 h2 => (k.1 b h1 h2).trans (a.1 b h1 h2), fun i h => (k.2 i h).trans (a.2 i h)⟩
theorem mo.wi {cs fs cs' fs' : List Nat} {σ σ' : mc_G} (a : mo cs fs σ σ') (h1 : ∀ x ∈ cs, x ∈ cs') (h2 : ∀ x ∈ fs, x ∈ fs') : mo cs' fs' σ σ' := ⟨fun b k1 k2 => a.1 b k1 (fun q => k2 (h1 b q)), fun i k => a.2 i (fun q => k (h2 i q))⟩
theorem mo.a {cs fs : List Nat} (σ : mc_G) {c : Nat} (h : c ∈ cs) (h2 : c ≠ 167) (i : Nat) (v : Int32) : mo cs fs σ (mc_up σ c i v) := ⟨fun b h1 k => mc_upn _ _ _ (fun q => k (q ▸ h)), fun i _ => by rw [mc_upn _ _ _ (fun q => h2 q.symm)]⟩
theorem mo.f {cs fs : List Nat} (σ : mc_G) {c : Nat} (h : c ∈ fs) (v : Int32) : mo cs fs σ (mc_up σ 167 c v) := ⟨fun b h1 k => mc_upn _ _ _ h1, fun i hi => by rw [upj, if_neg (fun q : i = c => hi (by rw [q]; exact h))]⟩
def cMT (T : tT) (σ : mc_G) : Prop := σ 167 1 = nI (tc T) ∧ ∀ t, t < tc T → σ 168 t = nI (tp T t) ∧ σ 169 t = bI (tf T t)
def cMP (P : pT) (σ : mc_G) : Prop := σ 167 5 = nI (pn P) ∧ σ 167 8 = nI (qn P) ∧ (∀ k, k < pn P → σ 171 k = nI (po P k) ∧ σ 172 k = pa P k) ∧ (∀ j, j < qn P → σ 173 j = nI (qf P j) ∧ σ 174 j = nI (qt P j) ∧ σ 175 j = nI (qa P j) ∧ σ 176 j = nI (qk P j))
def cMB (c : cS) (σ : mc_G) : Prop := ∀ j, j < 8 → σ 170 j = nI (c.2 j) ∧ c.2 j < 300
theorem cMT.o {T : tT} {σ σ' : mc_G} {cs fs : List Nat} (h : cMT T σ) (o : mo cs fs σ σ') (h1 : ¬ 168 ∈ cs := by decide) (h2 : ¬ 169 ∈ cs := by decide) (h3 : ¬ 1 ∈ fs := by decide) : cMT T σ' := by
  unfold cMT; rw [o.2 1 h3, o.1 168 (by decide) h1, o.1 169 (by decide) h2]; exact h
theorem cMP.o {P : pT} {σ σ' : mc_G} {cs fs : List Nat} (h : cMP P σ) (o : mo cs fs σ σ') (h1 : ¬ 5 ∈ fs := by decide) (h2 : ¬ 8 ∈ fs := by decide) (h3 : ∀ x ∈ [171, 172, 173, 174, 175, 176], ¬ x ∈ cs := by decide) : cMP P σ' := by
  unfold cMP; rw [o.2 5 h1, o.2 8 h2, o.1 171 (by decide) (h3 171 (by decide)), o.1 172 (by decide) (h3 172 (by decide)), o.1 173 (by decide) (h3 173 (by decide)), o.1 174 (by decide) (h3 174 (by decide)), o.1 175 (by decide) (h3 175 (by decide)), o.1 176 (by decide) (h3 176 (by decide))]; exact h
theorem cMB.o {c : cS} {σ σ' : mc_G} {cs fs : List Nat} (h : cMB c σ) (o : mo cs fs σ σ') (h1 : ¬ 170 ∈ cs := by decide) : cMB c σ' := by
  unfold cMB; rw [o.1 170 (by decide) h1]; exact h

/-! the reference's rows, by the class's own words for them -/
def mSt (S : sS) (σ : mc_G) : Prop := ∀ i, i < 30 → σ 180 i = bI (S.2.1 i) ∧ (S.2.1 i = true → (S.1 i).1 ≤ 6 ∧ ∀ k, k < 8 + (S.1 i).1 → σ 179 (14 * i + k) = nI ((S.1 i).2 k) ∧ (S.1 i).2 k < 300)
theorem mSt.o {S : sS} {σ σ' : mc_G} {cs fs : List Nat} (h : mSt S σ) (o : mo cs fs σ σ') (h1 : ¬ 179 ∈ cs := by decide) (h2 : ¬ 180 ∈ cs := by decide) : mSt S σ' := by
  unfold mSt; rw [o.1 179 (by decide) h1, o.1 180 (by decide) h2]; exact h
def jnG (T : tT) (S : sS) (i : Nat) (e : cS) : Bool := !S.2.1 i || jcA T (S.1 i) e (8 + (S.1 i).1)
def jnW (T : tT) (S : sS) (i : Nat) (e : cS) : cS := if S.2.1 i = true then jwA T (S.1 i) e else e
theorem mtA_1 {T : tT} {n : Nat} {S : sS} {i : Nat} {e : cS} (h : i < n) : (mtA T n S i e).1 = va_up S.1 i (jnW T S i e) := by
  unfold mtA jnW; rw [if_pos h]
  cases hS : S.2.1 i
  · simp
  · simp; split <;> rfl
theorem mtA_2 {T : tT} {n : Nat} {S : sS} {i : Nat} {e : cS} (h : i < n) : (mtA T n S i e).2.1 = va_up S.2.1 i true := by
  unfold mtA; rw [if_pos h]
  have hu : S.2.1 i = true → va_up S.2.1 i true = S.2.1 := fun q => by
    funext j; unfold va_up; split
    · next e => rw [e, q]
    · rfl
  cases hS : S.2.1 i
  · simp
  · simp; split
    · exact (hu hS).symm
    · exact (hu hS).symm
theorem mtA_4 {T : tT} {n : Nat} {S : sS} {i : Nat} {e : cS} (h : i < n) : (mtA T n S i e).2.2.2.1 = (S.2.2.2.1 || jnG T S i e) := by
  unfold mtA jnG; rw [if_pos h]
  cases hS : S.2.1 i
  · simp
  · simp
    cases hj : jcA T (S.1 i) e (8 + (S.1 i).1)
    · simp
    · simp
theorem mSt.mt {T : tT} {n : Nat} {S : sS} {i : Nat} {e : cS} {σ σ' : mc_G} (h : mSt S σ) (hi : i < n) (hn : n ≤ 30) (h1 : (jnW T S i e).1 ≤ 6 ∧ ∀ k, k < 8 + (jnW T S i e).1 → σ' 179 (14 * i + k) = nI ((jnW T S i e).2 k) ∧ (jnW T S i e).2 k < 300) (h2 : ∀ q, (q < 14 * i ∨ 14 * i + 14 ≤ q) → σ' 179 q = σ 179 q) (h3 : σ' 180 = fun j => if j = i then 1 else σ 180 j) : mSt (mtA T n S i e) σ' := by
  intro j hj
  rw [mtA_1 hi, mtA_2 hi, h3]
  unfold va_up
  by_cases q : j = i
  · subst q
    simp only [if_true]
    exact ⟨rfl, fun _ => h1⟩
  · simp only [if_neg q]
    refine ⟨(h j hj).1, fun r => ⟨((h j hj).2 r).1, fun k hk => ?_⟩⟩
    have a := ((h j hj).2 r).1
    rw [h2 _ (by omega)]
    exact ((h j hj).2 r).2 k hk
theorem stO {σ : mc_G} {p v : Int32} {i k j : Nat} (hp : p = nI (14 * i + k)) (hk : k < 14) (hi : i < 30) (hj : j < 14 * i ∨ 14 * i + 14 ≤ j) : mc_up σ 179 p.toNatClampNeg v 179 j = σ 179 j := by
  rw [clE hp (by omega), upj, if_neg (by omega)]
theorem uSt {σ : mc_G} {p v : Int32} {i k : Nat} {f : Nat → Nat} (h : ∀ j, j < k → σ 179 (14 * i + j) = nI (f j) ∧ f j < 300) (hp : p = nI (14 * i + k)) (hk : k < 14) (hi : i < 30) (hv : v = nI (f k)) (hb : f k < 300) : ∀ j, j < k + 1 → mc_up σ 179 p.toNatClampNeg v 179 (14 * i + j) = nI (f j) ∧ f j < 300 := by
  intro j hj
  rw [clE hp (by omega), upj]
  by_cases q : j = k
  · rw [if_pos (by omega), q]; exact ⟨hv, hb⟩
  · rw [if_neg (by omega)]; exact h j (by omega)
def jK (T : tT) (i : Nat) (c e : cS) (k : Nat) (σ : mc_G) : Prop := mHd e σ ∧ cMT T σ ∧ σ 180 i = bI true ∧ ∀ j, j < 8 + c.1 → σ 179 (14 * i + j) = nI (pmA (jwA T c e).2 c.2 k j) ∧ pmA (jwA T c e).2 c.2 k j < 300
theorem jK.s {T : tT} {i k : Nat} {c e : cS} {σ : mc_G} {p v : Int32} (h : jK T i c e k σ) (hO : tOk T) (hk : k < 8 + c.1) (hce : c.1 = e.1) (hi : i < 30) (hp : p = nI (14 * i + k)) (hv : v = nI (jnA T (c.2 k) (e.2 k))) : jK T i c e (k + 1) (mc_up σ 179 p.toNatClampNeg v) := by
  have ho1 : mo [179] [] σ (mc_up σ 179 p.toNatClampNeg v) := mo.a _ (by decide) (by decide) _ _
  have h6 := h.1.2.1
  have hke : kA e k = e.2 k := by unfold kA; rw [if_pos (by omega)]
  have hrk : σ 179 (14 * i + k) = nI (c.2 k) ∧ c.2 k < 300 := by
    have := h.2.2.2 k hk; unfold pmA at this; rw [if_neg (by omega)] at this; exact this
  refine ⟨h.1.o ho1, h.2.1.o ho1, by rw [mc_upn _ _ _ (by decide)]; exact h.2.2.1, fun j hj => ?_⟩
  rw [clE hp (by omega), upj]
  unfold pmA
  by_cases q : j = k
  · subst q
    rw [if_pos rfl, if_pos (show j < j + 1 by omega), jwA_at hk, hke]
    exact ⟨hv, jnA_lt hO hrk.2 (h.1.2.2 j (by omega)).2⟩
  · have := h.2.2.2 j hj
    unfold pmA at this
    rw [if_neg (by omega)]
    by_cases q2 : j < k
    · rw [if_pos q2] at this; rw [if_pos (by omega)]; exact this
    · rw [if_neg q2] at this; rw [if_neg (by omega)]; exact this
set_option maxRecDepth 100000 in
theorem lX12_joinsK {T : tT} (hO : tOk T) {i : Nat} (hi : i < 30) {c e : cS} (hce : c.1 = e.1) (hv1 : ∀ k, k < 8 + c.1 → t8K (c.2 k) = true → c.2 k < 100 + tc T) (hv2 : ∀ k, k < 8 + c.1 → t8K (e.2 k) = true → e.2 k < 100 + tc T) {x : Int32} (hx : x = nI i) : ∀ (n k : Nat) (b : Bool) (y z : Int32) (σ : mc_G), z = nI k → k ≤ 8 + c.1 → 8 + c.1 - k < n → y = bI b → b = jcA T c e k → jK T i c e k σ → Wp miX12_joins 17 [(0, .inr (some 167)), (1, .inl x), (2, .inl y), (3, .inl z)] [] σ (fun rv σ' => rv = some (.inl (bI (jcA T c e (8 + c.1)))) ∧ (∀ j, j < 8 + c.1 → σ' 179 (14 * i + j) = nI ((jwA T c e).2 j) ∧ (jwA T c e).2 j < 300) ∧ (σ' 180 = fun j => if j = i then 1 else σ 180 j) ∧ (∀ j, (j < 14 * i ∨ 14 * i + 14 ≤ j) → σ' 179 j = σ 179 j) ∧ mo [179, 180] [] σ σ') := by
  intro n
  induction n with
  | zero => intro k b y z σ hz hk h; omega
  | succ n ih =>
    intro k b y z σ hz hk hn hy hb hJ
    have hE := hJ.1
    have hT := hJ.2.1
    have hK := hJ.2.2.1
    have h6 := hE.2.1
    have hrk : k < 8 + c.1 → σ 179 (14 * i + k) = nI (c.2 k) ∧ c.2 k < 300 := fun q => by
      have := hJ.2.2.2 k q; unfold pmA at this; rw [if_neg (by omega)] at this; exact this
    have hke : k < 8 + c.1 → kA e k = e.2 k := fun q => by unfold kA; rw [if_pos (by omega)]
    have hek := hE.2.2 k
    iterate 6 refine Wp.go rfl ?_
    refine Wp.geN (a := k) (b := 8 + e.1) hz (nE_add (rfl : _ = nI 8) hE.1) (by first | omega | (have := hrk (by omega); have := hek (by omega); omega) | exact Nat.lt_trans (jnA_lt hO (hrk (by omega)).2 (hek (by omega)).2) (by decide)) (by first | omega | (have := hrk (by omega); have := hek (by omega); omega) | exact Nat.lt_trans (jnA_lt hO (hrk (by omega)).2 (hek (by omega)).2) (by decide)) (fun (h1 : ¬ k < 8 + e.1) => ?_) (fun (h1 : k < 8 + e.1) => ?_)
    · iterate 4 refine Wp.go rfl ?_
      refine Wp.go (if_pos ⟨(show 180 < 187 by decide), rfl, (inE (n := 30) hx (by first | omega | (have := hrk (by omega); have := hek (by omega); omega) | exact Nat.lt_trans (jnA_lt hO (hrk (by omega)).2 (hek (by omega)).2) (by decide))), Or.inr rfl⟩) ?_
      refine Wp.go rfl ?_
      refine Wp.retB (b := b) rfl rfl hy ?_
      refine ⟨rvB hy (by rw [hb, show k = 8 + c.1 by omega]), ?_, ?_, fun j hj => by rw [mc_upn _ _ _ (by decide)], mo.a _ (by decide) (by decide) _ _⟩
      · intro j hj; rw [mc_upn _ _ _ (by decide)]; have := hJ.2.2.2 j hj; unfold pmA at this; rw [if_pos (by omega)] at this; exact this
      · funext j; rw [clE hx (by omega), upj]; rfl
    · iterate 9 refine Wp.go rfl ?_
      refine Wp.go (if_pos ⟨rfl, rfl, (inE (n := 30) hx (by first | omega | (have := hrk (by omega); have := hek (by omega); omega) | exact Nat.lt_trans (jnA_lt hO (hrk (by omega)).2 (hek (by omega)).2) (by decide)))⟩) ?_
      refine Wp.go rfl ?_
      refine Wp.beqE (b := true) (rdE hx (by first | omega | (have := hrk (by omega); have := hek (by omega); omega) | exact Nat.lt_trans (jnA_lt hO (hrk (by omega)).2 (hek (by omega)).2) (by decide)) hK) (fun q => by cases q) (fun _ => ?_)
      iterate 4 refine Wp.go rfl ?_
      refine Wp.go (if_pos ⟨rfl, rfl, (inE (n := 420) (nE_add (nE_mul (rfl : _ = nI 14) hx) hz) (by first | omega | (have := hrk (by omega); have := hek (by omega); omega) | exact Nat.lt_trans (jnA_lt hO (hrk (by omega)).2 (hek (by omega)).2) (by decide)))⟩) ?_
      iterate 3 refine Wp.go rfl ?_
      refine Wp.go (if_pos ⟨rfl, rfl, (inE (n := 14) hz (by first | omega | (have := hrk (by omega); have := hek (by omega); omega) | exact Nat.lt_trans (jnA_lt hO (hrk (by omega)).2 (hek (by omega)).2) (by decide)))⟩) ?_
      refine Wp.call rfl cqX12_join (sX12_join hT hO (rdE (nE_add (nE_mul (rfl : _ = nI 14) hx) hz) (by first | omega | (have := hrk (by omega); have := hek (by omega); omega) | exact Nat.lt_trans (jnA_lt hO (hrk (by omega)).2 (hek (by omega)).2) (by decide)) (hrk (by omega)).1) (by omega) (rdE hz (by first | omega | (have := hrk (by omega); have := hek (by omega); omega) | exact Nat.lt_trans (jnA_lt hO (hrk (by omega)).2 (hek (by omega)).2) (by decide)) (hE.2.2 k (by omega)).1) (by omega) (hv1 k (by omega)) (hv2 k (by omega))) (fun rv1 s1 hq1 => ?_)
      obtain ⟨rfl, hq1⟩ := hq1
      replace hq1 := hq1.symm
      subst hq1
      iterate 7 refine Wp.go rfl ?_
      refine Wp.go (if_pos ⟨rfl, rfl, (inE (n := 420) (nE_add (nE_mul (rfl : _ = nI 14) hx) hz) (by first | omega | (have := hrk (by omega); have := hek (by omega); omega) | exact Nat.lt_trans (jnA_lt hO (hrk (by omega)).2 (hek (by omega)).2) (by decide)))⟩) ?_
      refine Wp.go rfl ?_
      refine Wp.eqN (a := jnA T (c.2 k) (e.2 k)) (b := c.2 k) rfl (rdE (nE_add (nE_mul (rfl : _ = nI 14) hx) hz) (by first | omega | (have := hrk (by omega); have := hek (by omega); omega) | exact Nat.lt_trans (jnA_lt hO (hrk (by omega)).2 (hek (by omega)).2) (by decide)) (hrk (by omega)).1) (by first | omega | (have := hrk (by omega); have := hek (by omega); omega) | exact Nat.lt_trans (jnA_lt hO (hrk (by omega)).2 (hek (by omega)).2) (by decide)) (by first | omega | (have := hrk (by omega); have := hek (by omega); omega) | exact Nat.lt_trans (jnA_lt hO (hrk (by omega)).2 (hek (by omega)).2) (by decide)) (fun (h3 : jnA T (c.2 k) (e.2 k) = c.2 k) => ?_) (fun (h3 : ¬ jnA T (c.2 k) (e.2 k) = c.2 k) => ?_)
      · iterate 7 refine Wp.go rfl ?_
        refine Wp.go (if_pos ⟨(show 179 < 187 by decide), rfl, (inE (n := 420) (nE_add (nE_mul (rfl : _ = nI 14) hx) hz) (by first | omega | (have := hrk (by omega); have := hek (by omega); omega) | exact Nat.lt_trans (jnA_lt hO (hrk (by omega)).2 (hek (by omega)).2) (by decide)))⟩) ?_
        iterate 2 refine Wp.go rfl ?_
        refine Wp.lo (lo := [(0, .inr (some 167)), (1, .inl _), (2, .inl _), (3, .inl _)]) ⟨rfl, rfl, rfl, rfl, trivial⟩ ?_
        refine (ih (k + 1) (b || false) _ _ _ (nE_add hz (rfl : _ = nI 1)) (by omega) (by omega) (bE_or hy (rfl : _ = bI false)) ?_ (hJ.s hO (by omega) hce hi (nE_add (nE_mul (rfl : _ = nI 14) hx) hz) rfl)).mono (fun rv σ2 q => ⟨q.1, q.2.1, q.2.2.1.trans (by rw [mc_upn _ _ _ (by decide)]), fun j hj => ?_, (mo.a _ (by decide) (by decide) _ _).tr q.2.2.2.2⟩)
        · rw [jcA_s, jwA_at (by omega), hke (by omega), hb]; simp [h3]
        · rw [q.2.2.2.1 j hj]; exact stO (nE_add (nE_mul (rfl : _ = nI 14) hx) hz) (by omega) hi hj
      · iterate 8 refine Wp.go rfl ?_
        refine Wp.go (if_pos ⟨(show 179 < 187 by decide), rfl, (inE (n := 420) (nE_add (nE_mul (rfl : _ = nI 14) hx) hz) (by first | omega | (have := hrk (by omega); have := hek (by omega); omega) | exact Nat.lt_trans (jnA_lt hO (hrk (by omega)).2 (hek (by omega)).2) (by decide)))⟩) ?_
        iterate 2 refine Wp.go rfl ?_
        refine Wp.lo (lo := [(0, .inr (some 167)), (1, .inl _), (2, .inl _), (3, .inl _)]) ⟨rfl, rfl, rfl, rfl, trivial⟩ ?_
        refine (ih (k + 1) (b || true) _ _ _ (nE_add hz (rfl : _ = nI 1)) (by omega) (by omega) (bE_or hy (rfl : _ = bI true)) ?_ (hJ.s hO (by omega) hce hi (nE_add (nE_mul (rfl : _ = nI 14) hx) hz) rfl)).mono (fun rv σ2 q => ⟨q.1, q.2.1, q.2.2.1.trans (by rw [mc_upn _ _ _ (by decide)]), fun j hj => ?_, (mo.a _ (by decide) (by decide) _ _).tr q.2.2.2.2⟩)
        · rw [jcA_s, jwA_at (by omega), hke (by omega), hb]; simp [h3]
        · rw [q.2.2.2.1 j hj]; exact stO (nE_add (nE_mul (rfl : _ = nI 14) hx) hz) (by omega) hi hj
set_option maxRecDepth 100000 in
theorem lX12_joinsU {i : Nat} (hi : i < 30) {e : cS} {x : Int32} (hx : x = nI i) : ∀ (n k : Nat) (y z : Int32) (σ : mc_G), z = nI k → k ≤ 8 + e.1 → 8 + e.1 - k < n → y = bI true → mHd e σ → σ 180 i = bI false → (∀ j, j < k → σ 179 (14 * i + j) = nI (e.2 j) ∧ e.2 j < 300) → Wp miX12_joins 17 [(0, .inr (some 167)), (1, .inl x), (2, .inl y), (3, .inl z)] [] σ (fun rv σ' => rv = some (.inl (bI true)) ∧ (∀ j, j < 8 + e.1 → σ' 179 (14 * i + j) = nI (e.2 j) ∧ e.2 j < 300) ∧ (σ' 180 = fun j => if j = i then 1 else σ 180 j) ∧ (∀ j, (j < 14 * i ∨ 14 * i + 14 ≤ j) → σ' 179 j = σ 179 j) ∧ mo [179, 180] [] σ σ') := by
  intro n
  induction n with
  | zero => intro k y z σ hz hk h; omega
  | succ n ih =>
    intro k y z σ hz hk hn hy hE hK hA
    have h6 := hE.2.1
    have hek := hE.2.2 k
    iterate 6 refine Wp.go rfl ?_
    refine Wp.geN (a := k) (b := 8 + e.1) hz (nE_add (rfl : _ = nI 8) hE.1) (by first | omega | (have := hek (by omega); omega)) (by first | omega | (have := hek (by omega); omega)) (fun (h1 : ¬ k < 8 + e.1) => ?_) (fun (h1 : k < 8 + e.1) => ?_)
    · iterate 4 refine Wp.go rfl ?_
      refine Wp.go (if_pos ⟨(show 180 < 187 by decide), rfl, (inE (n := 30) hx (by first | omega | (have := hek (by omega); omega))), Or.inr rfl⟩) ?_
      refine Wp.go rfl ?_
      refine Wp.retB (b := true) rfl rfl hy ?_
      refine ⟨rvB hy rfl, ?_, ?_, fun j hj => by rw [mc_upn _ _ _ (by decide)], mo.a _ (by decide) (by decide) _ _⟩
      · intro j hj; rw [mc_upn _ _ _ (by decide)]; exact hA j (by omega)
      · funext j; rw [clE hx (by omega), upj]; rfl
    · iterate 9 refine Wp.go rfl ?_
      refine Wp.go (if_pos ⟨rfl, rfl, (inE (n := 30) hx (by first | omega | (have := hek (by omega); omega)))⟩) ?_
      refine Wp.go rfl ?_
      refine Wp.beqE (b := false) (rdE hx (by first | omega | (have := hek (by omega); omega)) hK) (fun _ => ?_) (fun q => by cases q)
      iterate 3 refine Wp.go rfl ?_
      refine Wp.go (if_pos ⟨rfl, rfl, (inE (n := 14) hz (by first | omega | (have := hek (by omega); omega)))⟩) ?_
      iterate 6 refine Wp.go rfl ?_
      refine Wp.go (if_pos ⟨rfl, rfl, (inE (n := 420) (nE_add (nE_mul (rfl : _ = nI 14) hx) hz) (by first | omega | (have := hek (by omega); omega)))⟩) ?_
      refine Wp.go rfl ?_
      refine Wp.eqI (rdE hz (by first | omega | (have := hek (by omega); omega)) (hE.2.2 k (by omega)).1) (rdE (nE_add (nE_mul (rfl : _ = nI 14) hx) hz) (by first | omega | (have := hek (by omega); omega)) rfl) (fun (h3 : nI (e.2 k) = _) => ?_) (fun (h3 : ¬ nI (e.2 k) = _) => ?_)
      · iterate 7 refine Wp.go rfl ?_
        refine Wp.go (if_pos ⟨(show 179 < 187 by decide), rfl, (inE (n := 420) (nE_add (nE_mul (rfl : _ = nI 14) hx) hz) (by first | omega | (have := hek (by omega); omega)))⟩) ?_
        iterate 2 refine Wp.go rfl ?_
        refine Wp.lo (lo := [(0, .inr (some 167)), (1, .inl _), (2, .inl _), (3, .inl _)]) ⟨rfl, rfl, rfl, rfl, trivial⟩ ?_
        refine (ih (k + 1) _ _ _ (nE_add hz (rfl : _ = nI 1)) (by omega) (by omega) ((bE_or hy (rfl : _ = bI false)).trans rfl) (hE.o (mo.a (cs := [179]) (fs := []) _ (by decide) (by decide) _ _)) (by rw [mc_upn _ _ _ (by decide)]; exact hK) (fun j hj => ?_)).mono (fun rv σ2 q => ⟨q.1, q.2.1, q.2.2.1.trans (by rw [mc_upn _ _ _ (by decide)]), fun j hj => ?_, (mo.a _ (by decide) (by decide) _ _).tr q.2.2.2.2⟩)
        · exact uSt hA (nE_add (nE_mul (rfl : _ = nI 14) hx) hz) (by omega) hi (rdE hz (by first | omega | (have := hek (by omega); omega)) (hE.2.2 k (by omega)).1) (hek (by omega)).2 j hj
        · rw [q.2.2.2.1 j hj]; exact stO (nE_add (nE_mul (rfl : _ = nI 14) hx) hz) (by omega) hi hj
      · iterate 8 refine Wp.go rfl ?_
        refine Wp.go (if_pos ⟨(show 179 < 187 by decide), rfl, (inE (n := 420) (nE_add (nE_mul (rfl : _ = nI 14) hx) hz) (by first | omega | (have := hek (by omega); omega)))⟩) ?_
        iterate 2 refine Wp.go rfl ?_
        refine Wp.lo (lo := [(0, .inr (some 167)), (1, .inl _), (2, .inl _), (3, .inl _)]) ⟨rfl, rfl, rfl, rfl, trivial⟩ ?_
        refine (ih (k + 1) _ _ _ (nE_add hz (rfl : _ = nI 1)) (by omega) (by omega) ((bE_or hy (rfl : _ = bI true)).trans rfl) (hE.o (mo.a (cs := [179]) (fs := []) _ (by decide) (by decide) _ _)) (by rw [mc_upn _ _ _ (by decide)]; exact hK) (fun j hj => ?_)).mono (fun rv σ2 q => ⟨q.1, q.2.1, q.2.2.1.trans (by rw [mc_upn _ _ _ (by decide)]), fun j hj => ?_, (mo.a _ (by decide) (by decide) _ _).tr q.2.2.2.2⟩)
        · exact uSt hA (nE_add (nE_mul (rfl : _ = nI 14) hx) hz) (by omega) hi (rdE hz (by first | omega | (have := hek (by omega); omega)) (hE.2.2 k (by omega)).1) (hek (by omega)).2 j hj
        · rw [q.2.2.2.1 j hj]; exact stO (nE_add (nE_mul (rfl : _ = nI 14) hx) hz) (by omega) hi hj
set_option maxRecDepth 100000 in
theorem sX12_joins {T : tT} (hO : tOk T) {n i : Nat} {e : cS} {S : sS} {σ : mc_G} (hS : mSt S σ) (hE : mHd e σ) (hT : cMT T σ) {x : Int32} (hx : x = nI i) (hin : i < n) (hn : n ≤ 30) (hce : S.2.1 i = true → (S.1 i).1 = e.1) (hv1 : S.2.1 i = true → ∀ k, k < 8 + (S.1 i).1 → t8K ((S.1 i).2 k) = true → (S.1 i).2 k < 100 + tc T) (hv2 : ∀ k, k < 8 + e.1 → t8K (e.2 k) = true → e.2 k < 100 + tc T) : Wp miX12_joins 0 [(0, .inr (some 167)), (1, .inl x)] [] σ (fun rv σ' => rv = some (.inl (bI (jnG T S i e))) ∧ mSt (mtA T n S i e) σ' ∧ mo [179, 180] [] σ σ') := by
  have hi : i < 30 := by omega
  cases hk : S.2.1 i
  · have hK : σ 180 i = bI false := by rw [(hS i hi).1, hk]
    iterate 3 refine Wp.go rfl ?_
    refine Wp.go (if_pos ⟨rfl, rfl, (inE (n := 30) hx (by omega))⟩) ?_
    refine Wp.go rfl ?_
    refine Wp.bneE (b := false) (rdE hx (by omega) hK) (fun q => by cases q) (fun _ => ?_)
    iterate 5 refine Wp.go rfl ?_
    refine Wp.lo (lo := [(0, .inr (some 167)), (1, .inl _), (2, .inl _), (3, .inl _)]) ⟨rfl, rfl, rfl, rfl, trivial⟩ ?_
    exact (lX12_joinsU hi hx (8 + e.1 + 1) 0 _ _ σ (rfl : _ = nI 0) (by omega) (by omega) rfl hE hK (fun j hj => by omega)).mono (fun rv σ2 q => ⟨by rw [q.1]; unfold jnG; rw [hk]; rfl, (hS.mt (T := T) (n := n) (e := e) hin hn (by unfold jnW; rw [if_neg (by rw [hk]; decide)]; exact ⟨hE.2.1, q.2.1⟩) q.2.2.2.1 q.2.2.1), q.2.2.2.2⟩)
  · have hK : σ 180 i = bI true := by rw [(hS i hi).1, hk]
    have hr := (hS i hi).2 hk
    have hce := hce hk
    have hv1 := hv1 hk
    rw [← hce] at hv2
    iterate 3 refine Wp.go rfl ?_
    refine Wp.go (if_pos ⟨rfl, rfl, (inE (n := 30) hx (by omega))⟩) ?_
    refine Wp.go rfl ?_
    refine Wp.bneE (b := true) (rdE hx (by omega) hK) (fun _ => ?_) (fun q => by cases q)
    iterate 4 refine Wp.go rfl ?_
    refine Wp.lo (lo := [(0, .inr (some 167)), (1, .inl _), (2, .inl _), (3, .inl _)]) ⟨rfl, rfl, rfl, rfl, trivial⟩ ?_
    exact (lX12_joinsK hO hi hce hv1 hv2 hx (8 + (S.1 i).1 + 1) 0 false _ _ σ (rfl : _ = nI 0) (by omega) (by omega) rfl rfl ⟨hE, hT, hK, fun j hj => by unfold pmA; rw [if_neg (by omega)]; exact (hr.2 j hj)⟩).mono (fun rv σ2 q => ⟨by rw [q.1]; unfold jnG; rw [hk]; rfl, (hS.mt (T := T) (n := n) (e := e) hin hn (by unfold jnW; rw [if_pos hk]; exact ⟨hr.1, q.2.1⟩) q.2.2.2.1 q.2.2.1), q.2.2.2.2⟩)

/-! the reference's judge -/
theorem foR_or {s : Bool → Nat → Bool} {f : Nat → Bool} (hs : ∀ b k, s b k = (b || f k)) : ∀ (n i : Nat) (b : Bool), foR s n i b = true ↔ (b = true ∨ ∃ k, i ≤ k ∧ k < i + n ∧ f k = true) := by
  intro n
  induction n with
  | zero =>
    intro i b
    show b = true ↔ _
    exact ⟨fun h => Or.inl h, fun h => h.elim id (fun ⟨k, h1, h2, _⟩ => by omega)⟩
  | succ n ih =>
    intro i b
    show foR s n (i + 1) (s b i) = true ↔ _
    rw [ih (i + 1), hs, Bool.or_eq_true]
    constructor
    · rintro ((h | h) | ⟨k, h1, h2, h3⟩)
      · exact Or.inl h
      · exact Or.inr ⟨i, Nat.le_refl _, by omega, h⟩
      · exact Or.inr ⟨k, by omega, by omega, h3⟩
    · rintro (h | ⟨k, h1, h2, h3⟩)
      · exact Or.inl (Or.inl h)
      · by_cases e : k = i
        · subst e; exact Or.inl (Or.inr h3)
        · exact Or.inr ⟨k, by omega, by omega, h3⟩
theorem fiS_or (P : pT) (H : Nat → Nat) (i : Nat) (b : Bool) (j : Nat) : fiS P H i b j = (b || fiS P H i false j) := by
  have h1 := foR_or (s := fhS P H i j) (f := fun k => decide (¬ H j = 0) && (cvA P k j && decide (qa P k = i))) (fun _ _ => rfl) (qn P) 0
  have e : fiS P H i b j = true ↔ (b || fiS P H i false j) = true := by
    unfold fiS
    rw [Bool.or_eq_true, h1, h1]
    simp only [Bool.or_eq_true, Bool.false_or]
    constructor
    · rintro ((h | h) | h)
      · exact Or.inl h
      · exact Or.inr (Or.inl h)
      · exact Or.inr (Or.inr h)
    · rintro (h | h | h)
      · exact Or.inl (Or.inl h)
      · exact Or.inl (Or.inr h)
      · exact Or.inr h
  cases h2 : fiS P H i b j <;> cases h3 : (b || fiS P H i false j) <;> simp_all
theorem iFA_iff {P : pT} {H : Nat → Nat} {i : Nat} : iFA P H i = true ↔ ∃ j, j < pn P ∧ ¬ H j = 0 ∧ ((juA P j = true ∧ nuN P j = i) ∨ ∃ k, k < qn P ∧ cvA P k j = true ∧ qa P k = i) := by
  unfold iFA
  rw [foR_or (fun b k => fiS_or P H i b k)]
  have h1 := fun j => foR_or (s := fhS P H i j) (f := fun k => decide (¬ H j = 0) && (cvA P k j && decide (qa P k = i))) (fun _ _ => rfl) (qn P) 0
  constructor
  · rintro (h | ⟨j, -, hj, h⟩)
    · cases h
    · unfold fiS at h
      rw [h1] at h
      rcases h with h | ⟨k, -, hk, h⟩
      · simp at h; exact ⟨j, by omega, h.1, Or.inl h.2⟩
      · simp at h; exact ⟨j, by omega, h.1, Or.inr ⟨k, by omega, h.2⟩⟩
  · rintro ⟨j, hj, h0, h⟩
    refine Or.inr ⟨j, Nat.zero_le _, by omega, ?_⟩
    unfold fiS
    rw [h1]
    rcases h with h | ⟨k, hk, h⟩
    · exact Or.inl (by simp [h0, h])
    · exact Or.inr ⟨k, Nat.zero_le _, by omega, by simp [h0, h]⟩
theorem iFA_cg {P : pT} {H G : Nat → Nat} (h : ∀ j, j < pn P → (H j = 0 ↔ G j = 0)) (i : Nat) : iFA P H i = iFA P G i := by
  have e : iFA P H i = true ↔ iFA P G i = true := by
    rw [iFA_iff, iFA_iff]
    constructor
    · rintro ⟨j, hj, h0, q⟩; exact ⟨j, hj, fun r => h0 ((h j hj).mpr r), q⟩
    · rintro ⟨j, hj, h0, q⟩; exact ⟨j, hj, fun r => h0 ((h j hj).mp r), q⟩
  cases h2 : iFA P H i <;> cases h3 : iFA P G i <;> simp_all
/-- a FRAME as the reference holds it -/
def gvP (P : pT) (T : tT) (F : fS) (i : Nat) (σ : mc_G) : Prop := ¬ nmA (pn P) F i = -1 ∧ i < 30 ∧ gC P T (gvF (pn P) F i) ∧ (∃ m, σ 177 i = nI m ∧ m < 128 ∧ hiO m = (gvF (pn P) F i).1) ∧ ∀ j, j < 8 + (gvF (pn P) F i).1 → σ 183 (14 * i + j) = nI ((gvF (pn P) F i).2 j)
theorem gvP.o {P : pT} {T : tT} {F : fS} {i : Nat} {σ σ' : mc_G} {cs fs : List Nat} (k : gvP P T F i σ) (o : mo cs fs σ σ') (h1 : ¬ 177 ∈ cs := by decide) (h2 : ¬ 183 ∈ cs := by decide) : gvP P T F i σ' := by
  unfold gvP; rw [o.1 177 (by decide) h1, o.1 183 (by decide) h2]; exact k
def alA (T : tT) (c e : cS) (i : Nat) : Bool := (List.range i).all (fun j => gfA T (c.2 j) (kA e j))
theorem alA_s {T : tT} {c e : cS} {i : Nat} : alA T c e (i + 1) = (alA T c e i && gfA T (c.2 i) (kA e i)) := by
  unfold alA; rw [List.range_succ, List.all_append]; simp
theorem alA_cg {T : tT} {c d e : cS} : ∀ (i : Nat), (∀ j, j < i → c.2 j = d.2 j) → alA T c e i = alA T d e i
  | 0, _ => rfl
  | i + 1, h => by rw [alA_s, alA_s, alA_cg i (fun j hj => h j (by omega)), h i (by omega)]
theorem sf_hd {T : tT} {c g : cS} {t : Nat} : sfA T (1, va_up c.2 8 t) g = (alA T c g 8 && (decide (g.1 = 1) && gfA T t (kA g 8))) := by
  show (decide (1 = g.1) && alA T (1, va_up c.2 8 t) g 9) = _
  rw [alA_s, alA_cg (c := (1, va_up c.2 8 t)) (d := c) 8 (fun j hj => if_neg (by omega)), show ((1, va_up c.2 8 t) : cS).2 8 = t from (show va_up c.2 8 t 8 = t by unfold va_up; rw [if_pos rfl]), show decide (1 = g.1) = decide (g.1 = 1) from decide_eq_decide.mpr ⟨Eq.symm, Eq.symm⟩]
  cases decide (g.1 = 1) <;> cases alA T c g 8 <;> simp
set_option maxRecDepth 100000 in
theorem lX12_goFor {T : tT} (hO : tOk T) {c g : cS} {σ : mc_G} (hC : mHd c σ) (hT : cMT T σ) {i : Nat} (hi : i < 30) {x : Int32} (hx : x = nI i) (hce : c.1 = g.1) (hR : ∀ j, j < 8 + g.1 → σ 183 (14 * i + j) = nI (g.2 j) ∧ g.2 j < 300) (hv1 : ∀ k, k < 8 + c.1 → t8K (c.2 k) = true → c.2 k < 100 + tc T) (hv2 : ∀ k, k < 8 + g.1 → t8K (g.2 k) = true → g.2 k < 100 + tc T) : ∀ (n k : Nat) (b : Bool) (y z : Int32), z = nI k → k ≤ 8 + c.1 → 8 + c.1 - k < n → y = bI b → b = asA T c g k → Wp miX12_goFor 20 [(0, .inr (some 167)), (1, .inl x), (2, .inl y), (3, .inl z)] [] σ (fun rv σ' => rv = some (.inl (bI (sfA T c g))) ∧ σ' = σ) := by
  have h6 := hC.2.1
  intro n
  induction n with
  | zero => intro k b y z hz hk h; omega
  | succ n ih =>
    intro k b y z hz hk hn hy hb
    iterate 6 refine Wp.go rfl ?_
    refine Wp.geN (a := k) (b := 8 + c.1) hz (nE_add (rfl : _ = nI 8) hC.1) (by omega) (by omega) (fun (h1 : ¬ k < 8 + c.1) => ?_) (fun (h1 : k < 8 + c.1) => ?_)
    · refine Wp.go rfl ?_
      refine Wp.retB (b := b) rfl rfl hy ?_
      exact ⟨rvB hy (by rw [hb, show k = 8 + c.1 by omega]; rfl), rfl⟩
    · iterate 2 refine Wp.go rfl ?_
      refine Wp.beqE hy (fun (h2 : b = false) => ?_) (fun (h2 : b = true) => ?_)
      · refine Wp.go rfl ?_
        refine Wp.retB (b := b) rfl rfl hy ?_
        exact ⟨rvB hy (by rw [h2]; unfold sfA; rw [asA_f (hb.symm.trans h2) (by omega)]), rfl⟩
      · iterate 4 refine Wp.go rfl ?_
        refine Wp.go (if_pos ⟨rfl, rfl, (inE (n := 14) hz (by omega))⟩) ?_
        iterate 7 refine Wp.go rfl ?_
        refine Wp.go (if_pos ⟨rfl, rfl, (inE (n := 420) (nE_add (nE_mul (rfl : _ = nI 14) hx) hz) (by omega))⟩) ?_
        refine Wp.call rfl cqX12_goesFor (sX12_goesFor hT hO (rdE hz (by omega) (hC.2.2 k (by omega)).1) (by have := hC.2.2 k (by omega); omega) (rdE (nE_add (nE_mul (rfl : _ = nI 14) hx) hz) (by omega) (hR k (by omega)).1) (by have := hR k (by omega); omega) (hv1 k (by omega)) (hv2 k (by omega))) (fun rv1 s1 hq1 => ?_)
        obtain ⟨rfl, hq1⟩ := hq1
        replace hq1 := hq1.symm
        subst hq1
        iterate 3 refine Wp.go rfl ?_
        have hkg : kA g k = g.2 k := by unfold kA; rw [if_pos (by omega)]
        refine Wp.lo (lo := [(0, .inr (some 167)), (1, .inl _), (2, .inl _), (3, .inl _)]) ⟨rfl, rfl, rfl, rfl, trivial⟩ ?_
        exact ih (k + 1) _ _ _ (nE_add hz (rfl : _ = nI 1)) (by omega) (by omega) rfl (by rw [asA_s, ← hb, h2, hkg]; rfl)
set_option maxRecDepth 100000 in
theorem sX12_goFor {T : tT} (hO : tOk T) {c g : cS} {σ : mc_G} (hC : mHd c σ) (hT : cMT T σ) {i : Nat} (hi : i < 30) {x : Int32} (hx : x = nI i) {m : Nat} (hm : σ 177 i = nI m) (hm7 : m < 128) (hmg : hiO m = g.1) (hg6 : g.1 ≤ 6) (hR : ∀ j, j < 8 + g.1 → σ 183 (14 * i + j) = nI (g.2 j) ∧ g.2 j < 300) (hv1 : ∀ k, k < 8 + c.1 → t8K (c.2 k) = true → c.2 k < 100 + tc T) (hv2 : ∀ k, k < 8 + g.1 → t8K (g.2 k) = true → g.2 k < 100 + tc T) : Wp miX12_goFor 0 [(0, .inr (some 167)), (1, .inl x)] [] σ (fun rv σ' => rv = some (.inl (bI (sfA T c g))) ∧ σ' = σ) := by
  have h6 := hC.2.1
  iterate 4 refine Wp.go rfl ?_
  refine Wp.call rfl cqX12_highOf (sX12_highOf hx hi hm hm7) (fun rv1 s1 hq1 => ?_)
  obtain ⟨rfl, hq1⟩ := hq1
  replace hq1 := hq1.symm
  subst hq1
  refine Wp.go rfl ?_
  refine Wp.neN (a := c.1) (b := g.1) hC.1 (congrArg nI hmg) (by omega) (by omega) (fun (h1 : ¬ c.1 = g.1) => ?_) (fun (h1 : c.1 = g.1) => ?_)
  · iterate 10 refine Wp.go rfl ?_
    refine Wp.geN (a := 0) (b := 8 + c.1) (rfl : _ = nI 0) (nE_add (rfl : _ = nI 8) hC.1) (by omega) (by omega) (fun q => by omega) (fun _ => ?_)
    iterate 2 refine Wp.go rfl ?_
    refine Wp.beqE (b := false) rfl (fun _ => ?_) (fun q => by cases q)
    refine Wp.go rfl ?_
    refine Wp.retB (b := false) rfl rfl rfl ?_
    exact ⟨rvB rfl (by unfold sfA asA; rw [decide_eq_false h1]), rfl⟩
  · iterate 5 refine Wp.go rfl ?_
    refine Wp.lo (lo := [(0, .inr (some 167)), (1, .inl _), (2, .inl _), (3, .inl _)]) ⟨rfl, rfl, rfl, rfl, trivial⟩ ?_
    exact lX12_goFor hO hC hT hi hx h1 hR hv1 hv2 (8 + c.1 + 1) 0 true _ _ (rfl : _ = nI 0) (by omega) (by omega) rfl (by unfold asA; rw [decide_eq_true h1]; rfl)
theorem gvP.r {P : pT} {T : tT} {F : fS} {i : Nat} {σ : mc_G} (h : gvP P T F i σ) (hG : pG P T) : ∀ j, j < 8 + (gvF (pn P) F i).1 → σ 183 (14 * i + j) = nI ((gvF (pn P) F i).2 j) ∧ (gvF (pn P) F i).2 j < 300 :=
  fun j hj => ⟨h.2.2.2.2 j hj, vK_b hG.1 hG.2.1.1 (h.2.2.1.2.1 j hj)⟩
theorem bE_an {x y : Int32} {a b : Bool} (hx : x = bI a) (hy : y = bI b) : x &&& y = bI (a && b) := bE_and hx hy
set_option maxRecDepth 100000 in
theorem lX12_hgP {P : pT} {T : tT} (hO : tOk T) {c g : cS} {σ : mc_G} (hP : cMP P σ) (hC : mHd c σ) (hT : cMT T σ) (hq4 : qn P ≤ 4) {j : Nat} (hj : j < qn P) (ha : qa P j < 30) (hR : ∀ k, k < 8 + g.1 → σ 183 (14 * qa P j + k) = nI (g.2 k) ∧ g.2 k < 300) (hg6 : g.1 ≤ 6) (hv1 : ∀ k, k < 8 + c.1 → t8K (c.2 k) = true → c.2 k < 100 + tc T) (hv2 : ∀ k, k < 8 + g.1 → t8K (g.2 k) = true → g.2 k < 100 + tc T) {x v : Int32} (hw : v = nI j) {b0 : Bool} {Φ : Option mc_V → mc_G → Prop} : ∀ (n p : Nat) (y z : Int32), z = nI p → p + n = 8 → y = bI (b0 && alA T c g p) → (∀ (y1 z1 : Int32), y1 = bI (b0 && alA T c g 8) → Wp miX12_handlersGo 80 [(0, .inr (some 167)), (1, .inl x), (2, .inl y1), (3, .inl v), (4, .inl z1)] [] σ Φ) → Wp miX12_handlersGo 36 [(0, .inr (some 167)), (1, .inl (x)), (2, .inl y), (3, .inl v), (4, .inl z)] [] σ Φ := by
  have h6 := hC.2.1
  intro n
  induction n with
  | zero =>
    intro p y z hz hp hy kk
    iterate 3 refine Wp.go rfl ?_
    refine Wp.geN (a := p) (b := 8) hz (rfl : _ = nI 8) (by omega) (by omega) (fun (h1 : ¬ p < 8) => ?_) (fun (h1 : p < 8) => by omega)
    rw [show p = 8 by omega] at hy
    exact kk y z hy
  | succ n ih =>
    intro p y z hz hp hy kk
    iterate 3 refine Wp.go rfl ?_
    refine Wp.geN (a := p) (b := 8) hz (rfl : _ = nI 8) (by omega) (by omega) (fun (h1 : ¬ p < 8) => ?_) (fun (h1 : p < 8) => ?_)
    · exfalso; omega
    · iterate 5 refine Wp.go rfl ?_
      refine Wp.go (if_pos ⟨rfl, rfl, (inE (n := 14) hz (by omega))⟩) ?_
      iterate 6 refine Wp.go rfl ?_
      refine Wp.go (if_pos ⟨rfl, rfl, (inE (n := 4) hw (by omega))⟩) ?_
      iterate 3 refine Wp.go rfl ?_
      refine Wp.go (if_pos ⟨rfl, rfl, (inE (n := 420) (nE_add (nE_mul (rfl : _ = nI 14) (rdE hw (by omega) (hP.2.2.2 j (by omega)).2.2.1)) hz) (by omega))⟩) ?_
      refine Wp.call rfl cqX12_goesFor (sX12_goesFor hT hO (rdE hz (by omega) (hC.2.2 p (by omega)).1) (by have := hC.2.2 p (by omega); omega) (rdE (nE_add (nE_mul (rfl : _ = nI 14) (rdE hw (by omega) (hP.2.2.2 j (by omega)).2.2.1)) hz) (by omega) (hR p (by omega)).1) (by have := hR p (by omega); omega) (hv1 p (by omega)) (hv2 p (by omega))) (fun rv1 s1 hq1 => ?_)
      obtain ⟨rfl, hq1⟩ := hq1
      replace hq1 := hq1.symm
      subst hq1
      iterate 4 refine Wp.go rfl ?_
      have hkg : kA g p = g.2 p := by unfold kA; rw [if_pos (by omega)]
      refine Wp.lo (lo := [(0, .inr (some 167)), (1, .inl _), (2, .inl _), (3, .inl _), (4, .inl _)]) ⟨rfl, rfl, rfl, rfl, rfl, trivial⟩ ?_
      exact ih (p + 1) _ _ (nE_add hz (rfl : _ = nI 1)) (by omega) ((bE_an hy rfl).trans (by rw [alA_s, hkg, Bool.and_assoc])) kk
set_option maxRecDepth 100000 in
theorem lX12_hg {P : pT} {T : tT} (hG : pG P T) {F : fS} {c : cS} {at0 : Bool} {σ : mc_G} (hP : cMP P σ) (hC : mHd c σ) (hT : cMT T σ) (hv1 : ∀ k, k < 8 + c.1 → t8K (c.2 k) = true → c.2 k < 100 + tc T) {i : Nat} (hi : i < 30) (hf : ∀ j, cvA P j i = true → gvP P T F (qa P j) σ) {x : Int32} (hx : x = nI i) : ∀ (n j : Nat) (b : Bool) (y v : Int32), v = nI j → j + n = qn P → y = bI b → Wp miX12_handlersGo 4 [(0, .inr (some 167)), (1, .inl x), (2, .inl y), (3, .inl v)] [] σ (fun rv σ' => rv = some (.inl (bI (foR (jhS P T F (c, at0) i) n j b))) ∧ σ' = σ) := by
  have hO := hG.1
  have hn30 := hG.2.1.1
  have hq4 := hG.2.1.2
  have h8 := hO.2.1
  intro n
  induction n with
  | zero =>
    intro j b y v hw hj hy
    iterate 4 refine Wp.go rfl ?_
    refine Wp.geN (a := j) (b := qn P) hw hP.2.1 (by omega) (by omega) (fun (h1 : ¬ j < qn P) => ?_) (fun (h1 : j < qn P) => by omega)
    refine Wp.go rfl ?_
    refine Wp.retB (b := b) rfl rfl hy ?_
    exact ⟨rvB hy rfl, rfl⟩
  | succ n ih =>
    intro j b y v hw hj hy
    have hqj := hG.2.2.2.1 j (by omega)
    have ih : ∀ (j : Nat) (b : Bool) (y v : Int32), v = nI j → j + n = qn P → y = bI b → Wp miX12_handlersGo 4 [(0, .inr (some 167)), (1, .inl x), (2, .inl y), (3, .inl v)] [] σ (fun rv σ' => rv = some (.inl (bI (foR (jhS P T F (c, at0) i) n j b))) ∧ σ' = σ) := ih
    show Wp miX12_handlersGo 4 _ [] σ (fun rv σ' => rv = some (.inl (bI (foR (jhS P T F (c, at0) i) n (j + 1) (jhS P T F (c, at0) i b j)))) ∧ σ' = σ)
    iterate 4 refine Wp.go rfl ?_
    refine Wp.geN (a := j) (b := qn P) hw hP.2.1 (by omega) (by omega) (fun (h1 : ¬ j < qn P) => ?_) (fun (h1 : j < qn P) => ?_)
    · refine Wp.go rfl ?_
      refine Wp.retB (b := b) rfl rfl hy ?_
      exfalso; omega
    · iterate 4 refine Wp.go rfl ?_
      refine Wp.go (if_pos ⟨rfl, rfl, (inE (n := 4) hw (by omega))⟩) ?_
      iterate 3 refine Wp.go rfl ?_
      refine Wp.go (if_pos ⟨rfl, rfl, (inE (n := 4) hw (by omega))⟩) ?_
      iterate 2 refine Wp.go rfl ?_
      refine Wp.call rfl cqX12_isIn (sX12_isIn_n hx (by omega) (rdE hw (by omega) (hP.2.2.2 j (by omega)).1) (by omega) (nE_sub (rdE hw (by omega) (hP.2.2.2 j (by omega)).2.1) (rfl : _ = nI 1) (by omega)) (by omega)) (fun rv1 s1 hq1 => ?_)
      obtain ⟨rfl, hq1⟩ := hq1
      replace hq1 := hq1.symm
      subst hq1
      refine Wp.go rfl ?_
      refine Wp.beqD (p := qf P j ≤ i ∧ i ≤ (qt P j) - 1) rfl (fun (h2 : ¬ (qf P j ≤ i ∧ i ≤ (qt P j) - 1)) => ?_) (fun (h2 : qf P j ≤ i ∧ i ≤ (qt P j) - 1) => ?_)
      · iterate 2 refine Wp.go rfl ?_
        have hcv : ¬ cvA P j i = true := by unfold cvA; simp; omega
        have e1 : jhS P T F (c, at0) i b j = b := by unfold jhS; rw [if_neg hcv]
        refine Wp.lo (lo := [(0, .inr (some 167)), (1, .inl _), (2, .inl _), (3, .inl _)]) ⟨rfl, rfl, rfl, rfl, trivial⟩ ?_
        exact ih (j + 1) _ _ _ (nE_add hw (rfl : _ = nI 1)) (by omega) (by rw [e1]; exact hy)
      · have hct : cvA P j i = true := by unfold cvA; simp; omega
        have hgp := hf j hct
        have e1 : jhS P T F (c, at0) i b j = (b && sfA T (1, va_up c.2 8 (100 + qk P j)) (gvF (pn P) F (qa P j))) := by unfold jhS jfA; rw [if_pos hct, if_neg hgp.1]
        have hR := hgp.r hG
        have hgg := hgp.2.2.1
        obtain ⟨m, hm1, hm2, hm3⟩ := hgp.2.2.2.1
        have ha := hgp.2.1
        generalize gvF (pn P) F (qa P j) = g at hR hgg hm3 e1
        have hv2 : ∀ k, k < 8 + g.1 → t8K (g.2 k) = true → g.2 k < 100 + tc T := fun k hk => vK_8 hO (hgg.2.1 k hk)
        have hg6 := hgg.1
        have hY2 := fun k hk => hG.2.2.2.2.2.2 k hk
        have hqk := hG.2.2.2.1 j (by omega)
        iterate 2 refine Wp.go rfl ?_
        refine Wp.lo (lo := [(0, .inr (some 167)), (1, .inl _), (2, .inl _), (3, .inl _), (4, .inl _)]) ⟨rfl, rfl, rfl, rfl, rfl, trivial⟩ ?_
        refine lX12_hgP hO hP hC hT hq4 (by omega) ha hR hg6 hv1 hv2 hw (b0 := b) 8 0 _ _ (rfl : _ = nI 0) (by decide) (by rw [show alA T c g 0 = true from rfl, Bool.and_true]; exact hy) (fun y1 z1 ay => ?_)
        iterate 5 refine Wp.go rfl ?_
        refine Wp.go (if_pos ⟨rfl, rfl, (inE (n := 4) hw (by omega))⟩) ?_
        refine Wp.call rfl cqX12_highOf (sX12_highOf (rdE hw (by omega) (hP.2.2.2 j (by omega)).2.2.1) (by omega) hm1 hm2) (fun rv2 s2 hq2 => ?_)
        obtain ⟨rfl, hq2⟩ := hq2
        replace hq2 := hq2.symm
        subst hq2
        iterate 2 refine Wp.go rfl ?_
        refine Wp.neN (a := g.1) (b := 1) (congrArg nI hm3) (rfl : _ = nI 1) (by omega) (by omega) (fun (h3 : ¬ g.1 = 1) => ?_) (fun (h3 : g.1 = 1) => ?_)
        · iterate 5 refine Wp.go rfl ?_
          have hk8 : g.1 = 1 → kA g 8 = g.2 8 := fun q => by unfold kA; rw [if_pos (by omega)]
          have e2 : jhS P T F (c, at0) i b j = ((b && alA T c g 8) && false) := by rw [e1, sf_hd]; rw [decide_eq_false (show ¬ g.1 = 1 by assumption)]; simp
          refine Wp.lo (lo := [(0, .inr (some 167)), (1, .inl _), (2, .inl _), (3, .inl _)]) ⟨rfl, rfl, rfl, rfl, trivial⟩ ?_
          exact ih (j + 1) _ _ _ (nE_add hw (rfl : _ = nI 1)) (by omega) ((bE_an ay (rfl : _ = bI false)).trans (by rw [e2]))
        · iterate 5 refine Wp.go rfl ?_
          refine Wp.go (if_pos ⟨rfl, rfl, (inE (n := 4) hw (by omega))⟩) ?_
          iterate 7 refine Wp.go rfl ?_
          refine Wp.go (if_pos ⟨rfl, rfl, (inE (n := 4) hw (by omega))⟩) ?_
          iterate 3 refine Wp.go rfl ?_
          refine Wp.go (if_pos ⟨rfl, rfl, (inE (n := 420) (nE_add (nE_mul (rfl : _ = nI 14) (rdE hw (by omega) (hP.2.2.2 j (by omega)).2.2.1)) (rfl : _ = nI 8)) (by omega))⟩) ?_
          refine Wp.call rfl cqX12_goesFor (sX12_goesFor hT hO (nE_add (rfl : _ = nI 100) (rdE hw (by omega) (hP.2.2.2 j (by omega)).2.2.2)) (by omega) (rdE (nE_add (nE_mul (rfl : _ = nI 14) (rdE hw (by omega) (hP.2.2.2 j (by omega)).2.2.1)) (rfl : _ = nI 8)) (by omega) (hR 8 (by omega)).1) (by have := hR 8 (by omega); omega) (fun _ => by have := hY2 j (by omega); omega) (hv2 8 (by omega))) (fun rv3 s3 hq3 => ?_)
          obtain ⟨rfl, hq3⟩ := hq3
          replace hq3 := hq3.symm
          subst hq3
          refine Wp.go rfl ?_
          refine Wp.beqE rfl (fun (h4 : (gfA T (100 + qk P j) (g.2 8)) = false) => ?_) (fun (h4 : (gfA T (100 + qk P j) (g.2 8)) = true) => ?_)
          · iterate 5 refine Wp.go rfl ?_
            have hk8 : g.1 = 1 → kA g 8 = g.2 8 := fun q => by unfold kA; rw [if_pos (by omega)]
            have e2 : jhS P T F (c, at0) i b j = ((b && alA T c g 8) && false) := by rw [e1, sf_hd]; rw [decide_eq_true (show g.1 = 1 by assumption), hk8 (by assumption), h4]; simp
            refine Wp.lo (lo := [(0, .inr (some 167)), (1, .inl _), (2, .inl _), (3, .inl _)]) ⟨rfl, rfl, rfl, rfl, trivial⟩ ?_
            exact ih (j + 1) _ _ _ (nE_add hw (rfl : _ = nI 1)) (by omega) ((bE_an ay (rfl : _ = bI false)).trans (by rw [e2]))
          · iterate 6 refine Wp.go rfl ?_
            have hk8 : g.1 = 1 → kA g 8 = g.2 8 := fun q => by unfold kA; rw [if_pos (by omega)]
            have e2 : jhS P T F (c, at0) i b j = ((b && alA T c g 8) && true) := by rw [e1, sf_hd]; rw [decide_eq_true (show g.1 = 1 by assumption), hk8 (by assumption), h4]; simp
            refine Wp.lo (lo := [(0, .inr (some 167)), (1, .inl _), (2, .inl _), (3, .inl _)]) ⟨rfl, rfl, rfl, rfl, trivial⟩ ?_
            exact ih (j + 1) _ _ _ (nE_add hw (rfl : _ = nI 1)) (by omega) ((bE_an ay (rfl : _ = bI true)).trans (by rw [e2]))
theorem sX12_handlersGo {P : pT} {T : tT} (hG : pG P T) {F : fS} {c : cS} {at0 : Bool} {σ : mc_G} (hP : cMP P σ) (hC : mHd c σ) (hT : cMT T σ) (hv1 : ∀ k, k < 8 + c.1 → t8K (c.2 k) = true → c.2 k < 100 + tc T) {i : Nat} (hi : i < 30) (hf : ∀ j, cvA P j i = true → gvP P T F (qa P j) σ) {x : Int32} (hx : x = nI i) : Wp miX12_handlersGo 0 [(0, .inr (some 167)), (1, .inl x)] [] σ (fun rv σ' => rv = some (.inl (bI (jhA P T F (c, at0) i))) ∧ σ' = σ) := by
  iterate 4 refine Wp.go rfl ?_
  refine Wp.lo (lo := [(0, .inr (some 167)), (1, .inl _), (2, .inl _), (3, .inl _)]) ⟨rfl, rfl, rfl, rfl, trivial⟩ ?_
  exact lX12_hg hG hP hC hT hv1 hi hf hx (qn P) 0 true _ _ (rfl : _ = nI 0) (by omega) rfl

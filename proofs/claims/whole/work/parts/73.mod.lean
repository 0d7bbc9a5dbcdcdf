/-! which INSTRUCTIONS have FRAMES, by the reference -/
def fhS (P : pT) (H : Nat → Nat) (i j : Nat) (b : Bool) (k : Nat) : Bool := b || (decide (¬ H j = 0) && (cvA P k j && decide (qa P k = i)))
def fiS (P : pT) (H : Nat → Nat) (i : Nat) (b : Bool) (j : Nat) : Bool := foR (fhS P H i j) (qn P) 0 (b || (decide (¬ H j = 0) && (juA P j && decide (nuN P j = i))))
def iFA (P : pT) (H : Nat → Nat) (i : Nat) : Bool := foR (fiS P H i) (pn P) 0 false
def mH7 (H : Nat → Nat) (σ : mc_G) : Prop := ∀ i, i < 30 → σ 177 i = nI (H i) ∧ H i < 128
theorem mH7.o {H : Nat → Nat} {σ σ' : mc_G} {cs fs : List Nat} (k : mH7 H σ) (o : mo cs fs σ σ') (h1 : ¬ 177 ∈ cs := by decide) : mH7 H σ' := by
  unfold mH7; rw [o.1 177 (by decide) h1]; exact k
set_option maxRecDepth 100000 in
theorem lX12_ifH {P : pT} {H : Nat → Nat} {σ : mc_G} (hn : pn P ≤ 30 ∧ qn P ≤ 4) (hB : ∀ j, j < qn P → qf P j < qt P j ∧ qt P j ≤ 30 ∧ qa P j < 30 ∧ qk P j < 8) (hN : pNum P) (hp20 : ∀ k, k < pn P → po P k ≤ 20) (hP : cMP P σ) (hH : mH7 H σ) {i : Nat} (hi : i < 30) {x : Int32} (hx : x = nI i) {j : Nat} (hj : j < pn P) {z : Int32} (hz : z = nI j) {Φ : Option mc_V → mc_G → Prop} : ∀ (n k : Nat) (b : Bool) (y v : Int32), v = nI k → k + n = qn P → y = bI b → (∀ (y1 v1 : Int32), y1 = bI (foR (fhS P H i j) n k b) → Wp miX12_isFrame 120 [(0, .inr (some 167)), (1, .inl x), (2, .inl y1), (3, .inl z), (4, .inl v1)] [] σ Φ) → Wp miX12_isFrame 54 [(0, .inr (some 167)), (1, .inl x), (2, .inl y), (3, .inl z), (4, .inl v)] [] σ Φ := by
  obtain ⟨hn, hq4⟩ := hn
  intro n
  induction n with
  | zero =>
    intro k b y v hw hk hy kk
    iterate 4 refine Wp.go rfl ?_
    refine Wp.geN (a := k) (b := qn P) hw hP.2.1 (by omega) (by omega) (fun (h1 : ¬ k < qn P) => ?_) (fun (h1 : k < qn P) => by omega)
    exact kk y v hy
  | succ n ih =>
    intro k b y v hw hk hy kk
    have hqj := hB k (by omega)
    have kk : ∀ (y1 v1 : Int32), y1 = bI (foR (fhS P H i j) n (k + 1) (fhS P H i j b k)) → Wp miX12_isFrame 120 [(0, .inr (some 167)), (1, .inl x), (2, .inl y1), (3, .inl z), (4, .inl v1)] [] σ Φ := kk
    iterate 4 refine Wp.go rfl ?_
    refine Wp.geN (a := k) (b := qn P) hw hP.2.1 (by first | omega | (have := (hH j (by omega)).2; omega)) (by first | omega | (have := (hH j (by omega)).2; omega)) (fun (h1 : ¬ k < qn P) => ?_) (fun (h1 : k < qn P) => ?_)
    · exfalso; omega
    · iterate 4 refine Wp.go rfl ?_
      refine Wp.go (if_pos ⟨rfl, rfl, (inE (n := 30) hz (by first | omega | (have := (hH j (by omega)).2; omega)))⟩) ?_
      refine Wp.go rfl ?_
      refine Wp.eqN (a := H j) (b := 0) (rdE hz (by first | omega | (have := (hH j (by omega)).2; omega)) (hH j (by omega)).1) (rfl : _ = nI 0) (by first | omega | (have := (hH j (by omega)).2; omega)) (by first | omega | (have := (hH j (by omega)).2; omega)) (fun (h2 : H j = 0) => ?_) (fun (h2 : ¬ H j = 0) => ?_)
      · iterate 5 refine Wp.go rfl ?_
        have e1 : fhS P H i j b k = (b || false) := by unfold fhS cvA; simp; first | omega | grind
        refine Wp.lo (lo := [(0, .inr (some 167)), (1, .inl _), (2, .inl _), (3, .inl _), (4, .inl _)]) ⟨rfl, rfl, rfl, rfl, rfl, trivial⟩ ?_
        exact ih (k + 1) _ _ _ (nE_add hw (rfl : _ = nI 1)) (by omega) ((bE_or hy (rfl : _ = bI false)).trans (by rw [e1])) kk
      · iterate 4 refine Wp.go rfl ?_
        refine Wp.go (if_pos ⟨rfl, rfl, (inE (n := 4) hw (by first | omega | (have := (hH j (by omega)).2; omega)))⟩) ?_
        iterate 3 refine Wp.go rfl ?_
        refine Wp.go (if_pos ⟨rfl, rfl, (inE (n := 4) hw (by first | omega | (have := (hH j (by omega)).2; omega)))⟩) ?_
        iterate 2 refine Wp.go rfl ?_
        refine Wp.call rfl cqX12_isIn (sX12_isIn_n hz (by omega) (rdE hw (by first | omega | (have := (hH j (by omega)).2; omega)) (hP.2.2.2 k (by omega)).1) (by omega) (nE_sub (rdE hw (by first | omega | (have := (hH j (by omega)).2; omega)) (hP.2.2.2 k (by omega)).2.1) (rfl : _ = nI 1) (by first | omega | (have := (hH j (by omega)).2; omega))) (by omega)) (fun rv1 s1 hq1 => ?_)
        obtain ⟨rfl, hq1⟩ := hq1
        replace hq1 := hq1.symm
        subst hq1
        refine Wp.go rfl ?_
        refine Wp.beqD (p := qf P k ≤ j ∧ j ≤ (qt P k) - 1) rfl (fun (h3 : ¬ (qf P k ≤ j ∧ j ≤ (qt P k) - 1)) => ?_) (fun (h3 : qf P k ≤ j ∧ j ≤ (qt P k) - 1) => ?_)
        · iterate 5 refine Wp.go rfl ?_
          have e1 : fhS P H i j b k = (b || false) := by unfold fhS cvA; simp; first | omega | grind
          refine Wp.lo (lo := [(0, .inr (some 167)), (1, .inl _), (2, .inl _), (3, .inl _), (4, .inl _)]) ⟨rfl, rfl, rfl, rfl, rfl, trivial⟩ ?_
          exact ih (k + 1) _ _ _ (nE_add hw (rfl : _ = nI 1)) (by omega) ((bE_or hy (rfl : _ = bI false)).trans (by rw [e1])) kk
        · iterate 3 refine Wp.go rfl ?_
          refine Wp.go (if_pos ⟨rfl, rfl, (inE (n := 4) hw (by first | omega | (have := (hH j (by omega)).2; omega)))⟩) ?_
          iterate 2 refine Wp.go rfl ?_
          refine Wp.neN (a := qa P k) (b := i) (rdE hw (by first | omega | (have := (hH j (by omega)).2; omega)) (hP.2.2.2 k (by omega)).2.2.1) hx (by first | omega | (have := (hH j (by omega)).2; omega)) (by first | omega | (have := (hH j (by omega)).2; omega)) (fun (h4 : ¬ qa P k = i) => ?_) (fun (h4 : qa P k = i) => ?_)
          · iterate 5 refine Wp.go rfl ?_
            have e1 : fhS P H i j b k = (b || false) := by unfold fhS cvA; simp; first | omega | grind
            refine Wp.lo (lo := [(0, .inr (some 167)), (1, .inl _), (2, .inl _), (3, .inl _), (4, .inl _)]) ⟨rfl, rfl, rfl, rfl, rfl, trivial⟩ ?_
            exact ih (k + 1) _ _ _ (nE_add hw (rfl : _ = nI 1)) (by omega) ((bE_or hy (rfl : _ = bI false)).trans (by rw [e1])) kk
          · iterate 6 refine Wp.go rfl ?_
            have e1 : fhS P H i j b k = (b || true) := by unfold fhS cvA; simp; right; first | omega | grind
            refine Wp.lo (lo := [(0, .inr (some 167)), (1, .inl _), (2, .inl _), (3, .inl _), (4, .inl _)]) ⟨rfl, rfl, rfl, rfl, rfl, trivial⟩ ?_
            exact ih (k + 1) _ _ _ (nE_add hw (rfl : _ = nI 1)) (by omega) ((bE_or hy (rfl : _ = bI true)).trans (by rw [e1])) kk
set_option maxRecDepth 100000 in
theorem lX12_ifJ {P : pT} {H : Nat → Nat} {σ : mc_G} (hn : pn P ≤ 30 ∧ qn P ≤ 4) (hB : ∀ j, j < qn P → qf P j < qt P j ∧ qt P j ≤ 30 ∧ qa P j < 30 ∧ qk P j < 8) (hN : pNum P) (hp20 : ∀ k, k < pn P → po P k ≤ 20) (hP : cMP P σ) (hH : mH7 H σ) {i : Nat} (hi : i < 30) {x : Int32} (hx : x = nI i) {Φ : Option mc_V → mc_G → Prop} : ∀ (n j : Nat) (b : Bool) (y z : Int32), z = nI j → j + n = pn P → y = bI b → (∀ (y1 z1 : Int32), y1 = bI (foR (fiS P H i) n j b) → Wp miX12_isFrame 126 [(0, .inr (some 167)), (1, .inl x), (2, .inl y1), (3, .inl z1)] [] σ Φ) → Wp miX12_isFrame 4 [(0, .inr (some 167)), (1, .inl x), (2, .inl y), (3, .inl z)] [] σ Φ := by
  obtain ⟨hn, hq4⟩ := hn
  intro n
  induction n with
  | zero =>
    intro j b y z hz hj hy kk
    iterate 4 refine Wp.go rfl ?_
    refine Wp.geN (a := j) (b := pn P) hz hP.1 (by omega) (by omega) (fun (h1 : ¬ j < pn P) => ?_) (fun (h1 : j < pn P) => by omega)
    exact kk y z hy
  | succ n ih =>
    intro j b y z hz hj hy kk
    have hN3 := fun q => hN.2.2 j q
    have h20 := op_20' hp20 j
    have kk : ∀ (y1 z1 : Int32), y1 = bI (foR (fiS P H i) n (j + 1) (foR (fhS P H i j) (qn P) 0 (b || (decide (¬ H j = 0) && (juA P j && decide (nuN P j = i)))))) → Wp miX12_isFrame 126 [(0, .inr (some 167)), (1, .inl x), (2, .inl y1), (3, .inl z1)] [] σ Φ := kk
    iterate 4 refine Wp.go rfl ?_
    refine Wp.geN (a := j) (b := pn P) hz hP.1 (by first | omega | (have := (hH j (by omega)).2; omega) | (have := (hN3 (by assumption)).2; omega)) (by first | omega | (have := (hH j (by omega)).2; omega) | (have := (hN3 (by assumption)).2; omega)) (fun (h1 : ¬ j < pn P) => ?_) (fun (h1 : j < pn P) => ?_)
    · exfalso; omega
    · iterate 4 refine Wp.go rfl ?_
      refine Wp.go (if_pos ⟨rfl, rfl, (inE (n := 30) hz (by first | omega | (have := (hH j (by omega)).2; omega) | (have := (hN3 (by assumption)).2; omega)))⟩) ?_
      refine Wp.go rfl ?_
      refine Wp.eqN (a := H j) (b := 0) (rdE hz (by first | omega | (have := (hH j (by omega)).2; omega) | (have := (hN3 (by assumption)).2; omega)) (hH j (by omega)).1) (rfl : _ = nI 0) (by first | omega | (have := (hH j (by omega)).2; omega) | (have := (hN3 (by assumption)).2; omega)) (by first | omega | (have := (hH j (by omega)).2; omega) | (have := (hN3 (by assumption)).2; omega)) (fun (h2 : H j = 0) => ?_) (fun (h2 : ¬ H j = 0) => ?_)
      · iterate 5 refine Wp.go rfl ?_
        have e1 : (b || (decide (¬ H j = 0) && (juA P j && decide (nuN P j = i)))) = (b || false) := by unfold juA; simp; grind
        refine Wp.lo (lo := [(0, .inr (some 167)), (1, .inl _), (2, .inl _), (3, .inl _), (4, .inl _)]) ⟨rfl, rfl, rfl, rfl, rfl, trivial⟩ ?_
        refine lX12_ifH ⟨hn, hq4⟩ hB hN hp20 hP hH hi hx (by omega) hz (qn P) 0 _ _ _ (rfl : _ = nI 0) (by omega) (bE_or hy (rfl : _ = bI false)) (fun y1 v1 a1 => ?_)
        iterate 2 refine Wp.go rfl ?_
        refine Wp.lo (lo := [(0, .inr (some 167)), (1, .inl _), (2, .inl _), (3, .inl _)]) ⟨rfl, rfl, rfl, rfl, trivial⟩ ?_
        rw [← e1] at a1
        exact ih (j + 1) _ _ _ (nE_add hz (rfl : _ = nI 1)) (by omega) a1 kk
      · iterate 3 refine Wp.go rfl ?_
        refine Wp.go (if_pos ⟨rfl, rfl, (inE (n := 30) hz (by first | omega | (have := (hH j (by omega)).2; omega) | (have := (hN3 (by assumption)).2; omega)))⟩) ?_
        refine Wp.call rfl cqX12_leads (sX12_leads (rdE hz (by first | omega | (have := (hH j (by omega)).2; omega) | (have := (hN3 (by assumption)).2; omega)) (hP.op (by omega))) h20) (fun rv1 s1 hq1 => ?_)
        obtain ⟨rfl, hq1⟩ := hq1
        replace hq1 := hq1.symm
        subst hq1
        refine Wp.go rfl ?_
        refine Wp.beqE rfl (fun (h3 : (decide (16 ≤ opA P j) && decide (opA P j ≤ 18)) = false) => ?_) (fun (h3 : (decide (16 ≤ opA P j) && decide (opA P j ≤ 18)) = true) => ?_)
        · iterate 5 refine Wp.go rfl ?_
          have e1 : (b || (decide (¬ H j = 0) && (juA P j && decide (nuN P j = i)))) = (b || false) := by unfold juA; simp; grind
          refine Wp.lo (lo := [(0, .inr (some 167)), (1, .inl _), (2, .inl _), (3, .inl _), (4, .inl _)]) ⟨rfl, rfl, rfl, rfl, rfl, trivial⟩ ?_
          refine lX12_ifH ⟨hn, hq4⟩ hB hN hp20 hP hH hi hx (by omega) hz (qn P) 0 _ _ _ (rfl : _ = nI 0) (by omega) (bE_or hy (rfl : _ = bI false)) (fun y1 v1 a1 => ?_)
          iterate 2 refine Wp.go rfl ?_
          refine Wp.lo (lo := [(0, .inr (some 167)), (1, .inl _), (2, .inl _), (3, .inl _)]) ⟨rfl, rfl, rfl, rfl, trivial⟩ ?_
          rw [← e1] at a1
          exact ih (j + 1) _ _ _ (nE_add hz (rfl : _ = nI 1)) (by omega) a1 kk
        · iterate 3 refine Wp.go rfl ?_
          refine Wp.go (if_pos ⟨rfl, rfl, (inE (n := 30) hz (by first | omega | (have := (hH j (by omega)).2; omega) | (have := (hN3 (by assumption)).2; omega)))⟩) ?_
          iterate 2 refine Wp.go rfl ?_
          refine Wp.neN (a := nuN P j) (b := i) (rdE hz (by first | omega | (have := (hH j (by omega)).2; omega) | (have := (hN3 (by assumption)).2; omega)) ((hP.nu (by omega)).trans (hN3 (by assumption)).1)) hx (by first | omega | (have := (hH j (by omega)).2; omega) | (have := (hN3 (by assumption)).2; omega)) (by first | omega | (have := (hH j (by omega)).2; omega) | (have := (hN3 (by assumption)).2; omega)) (fun (h4 : ¬ nuN P j = i) => ?_) (fun (h4 : nuN P j = i) => ?_)
          · iterate 5 refine Wp.go rfl ?_
            have e1 : (b || (decide (¬ H j = 0) && (juA P j && decide (nuN P j = i)))) = (b || false) := by unfold juA; simp; grind
            refine Wp.lo (lo := [(0, .inr (some 167)), (1, .inl _), (2, .inl _), (3, .inl _), (4, .inl _)]) ⟨rfl, rfl, rfl, rfl, rfl, trivial⟩ ?_
            refine lX12_ifH ⟨hn, hq4⟩ hB hN hp20 hP hH hi hx (by omega) hz (qn P) 0 _ _ _ (rfl : _ = nI 0) (by omega) (bE_or hy (rfl : _ = bI false)) (fun y1 v1 a1 => ?_)
            iterate 2 refine Wp.go rfl ?_
            refine Wp.lo (lo := [(0, .inr (some 167)), (1, .inl _), (2, .inl _), (3, .inl _)]) ⟨rfl, rfl, rfl, rfl, trivial⟩ ?_
            rw [← e1] at a1
            exact ih (j + 1) _ _ _ (nE_add hz (rfl : _ = nI 1)) (by omega) a1 kk
          · iterate 6 refine Wp.go rfl ?_
            have e1 : (b || (decide (¬ H j = 0) && (juA P j && decide (nuN P j = i)))) = (b || true) := by unfold juA; simp; right; grind
            refine Wp.lo (lo := [(0, .inr (some 167)), (1, .inl _), (2, .inl _), (3, .inl _), (4, .inl _)]) ⟨rfl, rfl, rfl, rfl, rfl, trivial⟩ ?_
            refine lX12_ifH ⟨hn, hq4⟩ hB hN hp20 hP hH hi hx (by omega) hz (qn P) 0 _ _ _ (rfl : _ = nI 0) (by omega) (bE_or hy (rfl : _ = bI true)) (fun y1 v1 a1 => ?_)
            iterate 2 refine Wp.go rfl ?_
            refine Wp.lo (lo := [(0, .inr (some 167)), (1, .inl _), (2, .inl _), (3, .inl _)]) ⟨rfl, rfl, rfl, rfl, trivial⟩ ?_
            rw [← e1] at a1
            exact ih (j + 1) _ _ _ (nE_add hz (rfl : _ = nI 1)) (by omega) a1 kk
set_option maxRecDepth 100000 in
theorem sX12_isFrame {P : pT} {H : Nat → Nat} {σ : mc_G} (hn : pn P ≤ 30 ∧ qn P ≤ 4) (hB : ∀ j, j < qn P → qf P j < qt P j ∧ qt P j ≤ 30 ∧ qa P j < 30 ∧ qk P j < 8) (hN : pNum P) (hp20 : ∀ k, k < pn P → po P k ≤ 20) (hP : cMP P σ) (hH : mH7 H σ) {i : Nat} (hi : i < 30) {x : Int32} (hx : x = nI i) : Wp miX12_isFrame 0 [(0, .inr (some 167)), (1, .inl x)] [] σ (fun rv σ' => rv = some (.inl (bI (iFA P H i))) ∧ σ' = σ) := by
  iterate 4 refine Wp.go rfl ?_
  refine Wp.lo (lo := [(0, .inr (some 167)), (1, .inl _), (2, .inl _), (3, .inl _)]) ⟨rfl, rfl, rfl, rfl, trivial⟩ ?_
  refine lX12_ifJ hn hB hN hp20 hP hH hi hx (pn P) 0 false _ _ (rfl : _ = nI 0) (by omega) rfl (fun y1 z1 a1 => ?_)
  refine Wp.go rfl ?_
  refine Wp.retB (b := iFA P H i) rfl rfl a1 ?_
  exact ⟨rvB a1 rfl, rfl⟩
/-! what the reference lists of LOCALS -/
def mEn (E : eS) (σ : mc_G) : Prop := σ 167 27 = nI E.1 ∧ E.1 ≤ 8 ∧ ∀ j, j < E.1 → σ 185 j = nI (E.2 j) ∧ E.2 j < 300
def mBe (E : eS) (σ : mc_G) : Prop := σ 167 29 = nI E.1 ∧ E.1 ≤ 8 ∧ ∀ j, j < E.1 → σ 186 j = nI (E.2 j) ∧ E.2 j < 300
def e0A : eS := (0, fun _ => 0)
theorem mEn.o {E : eS} {σ σ' : mc_G} {cs fs : List Nat} (k : mEn E σ) (o : mo cs fs σ σ') (h1 : ¬ 185 ∈ cs := by decide) (h2 : ¬ 27 ∈ fs := by decide) : mEn E σ' := by
  unfold mEn; rw [o.1 185 (by decide) h1, o.2 27 h2]; exact k
theorem mBe.o {E : eS} {σ σ' : mc_G} {cs fs : List Nat} (k : mBe E σ) (o : mo cs fs σ σ') (h1 : ¬ 186 ∈ cs := by decide) (h2 : ¬ 29 ∈ fs := by decide) : mBe E σ' := by
  unfold mBe; rw [o.1 186 (by decide) h1, o.2 29 h2]; exact k
theorem tm_2 : ∀ (n : Nat) (E : eS), (tmA n E).2 = E.2
  | 0, E => rfl
  | n + 1, E => by
    unfold tmA; split
    · exact tm_2 n _
    · rfl
theorem tm_le : ∀ (n : Nat) (E : eS), (tmA n E).1 ≤ E.1
  | 0, E => Nat.le_refl _
  | n + 1, E => by
    unfold tmA; split
    · exact Nat.le_trans (tm_le n _) (Nat.sub_le _ _)
    · exact Nat.le_refl _
theorem tm_cg {f g : Nat → Nat} : ∀ (m : Nat), (∀ j, j < m → f j = g j) → (tmA m (m, f)).1 = (tmA m (m, g)).1
  | 0, _ => rfl
  | m + 1, h => by
    unfold tmA
    show (if f (m + 1 - 1) = 0 then tmA m (m + 1 - 1, f) else (m + 1, f)).1 = (if g (m + 1 - 1) = 0 then tmA m (m + 1 - 1, g) else (m + 1, g)).1
    rw [show m + 1 - 1 = m by omega, h m (by omega)]
    split
    · exact tm_cg m (fun j hj => h j (by omega))
    · rfl
theorem tm_s {f : Nat → Nat} {m q : Nat} : (tmA (m + 1) (m + 1, va_up f m q)).1 = if q = 0 then (tmA m (m, f)).1 else m + 1 := by
  show (if va_up f m q (m + 1 - 1) = 0 then tmA m (m + 1 - 1, va_up f m q) else (m + 1, va_up f m q)).1 = _
  rw [show m + 1 - 1 = m by omega, show va_up f m q m = q from if_pos rfl]
  split
  · exact tm_cg m (fun j hj => if_neg (by omega))
  · rfl
theorem mEn.s {E : eS} {σ : mc_G} {q : Nat} {p v : Int32} (h : mEn E σ) (h8 : E.1 < 8) (hp : p = nI E.1) (hv : v = nI q) (hq : q < 300) : mEn (E.1 + 1, va_up E.2 E.1 q) (mc_up (mc_up σ 185 p.toNatClampNeg v) 167 27 (σ 167 27 + 1)) := by
  refine ⟨?_, h8, fun j hj => ?_⟩
  · rw [upj, if_pos rfl]; exact nE_add h.1 (rfl : _ = nI 1)
  · have hj' : j < E.1 + 1 := hj
    rw [mc_upn _ _ _ (by decide), clE hp (by omega), upj]
    show (if j = E.1 then v else σ 185 j) = nI (va_up E.2 E.1 q j) ∧ va_up E.2 E.1 q j < 300
    unfold va_up
    by_cases e : j = E.1
    · rw [if_pos e, if_pos e]; exact ⟨hv, hq⟩
    · rw [if_neg e, if_neg e]; exact h.2.2 j (by omega)
theorem mEn.t {E : eS} {σ : mc_G} {q : Nat} {v : Int32} (h : mEn E σ) (hv : v = nI q) (hq : q ≤ E.1) : mEn (q, E.2) (mc_up σ 167 27 v) := by
  have h8 := h.2.1
  refine ⟨by rw [upj, if_pos rfl]; exact hv, by show q ≤ 8; omega, fun j hj => ?_⟩
  rw [mc_upn _ _ _ (by decide)]
  exact h.2.2 j (by have : j < q := hj; omega)
def tlB (E : eS) : eS := tmA E.1 E
set_option maxRecDepth 100000 in
theorem lX12_list183 {c : cS} {a : Nat} (ha : a + 14 ≤ 420) {x : Int32} (hx : x = nI a) {σ0 : mc_G} {Φ : Option mc_V → mc_G → Prop} : ∀ (n k : Nat) (y z : Int32) (E : eS) (σ : mc_G), z = nI k → k + n = 8 → y = nI (tmA E.1 E).1 → mEn E σ → E.1 ≤ k → (∀ j, j < 8 → σ 183 (a + j) = nI (c.2 j) ∧ c.2 j < 300) → mo [185] [27] σ0 σ → (∀ (σ2 : mc_G), mEn (tlB (foR (etA c) n k E)) σ2 → mo [185] [27] σ0 σ2 → Φ none σ2) → Wp miX12_list 10 [(0, .inr (some 167)), (1, .inr (some 183)), (2, .inl x), (3, .inl y), (4, .inl z)] [] σ Φ := by
  intro n
  induction n with
  | zero =>
    intro k y z E σ hz hk hy hE hek hR ho kk
    iterate 3 refine Wp.go rfl ?_
    refine Wp.geN (a := k) (b := 8) hz (rfl : _ = nI 8) (by omega) (by omega) (fun (h1 : ¬ k < 8) => ?_) (fun (h1 : k < 8) => by omega)
    iterate 3 refine Wp.go rfl ?_
    refine Wp.ret rfl ?_
    refine kk _ ?_ (ho.tr (mo.f _ (by decide) _))
    show mEn (tlB E) _
    unfold tlB
    rw [show tmA E.1 E = ((tmA E.1 E).1, E.2) from Prod.ext rfl (tm_2 _ _)]
    exact hE.t hy (tm_le _ _)
  | succ n ih =>
    intro k y z E σ hz hk hy hE hek hR ho kk
    have hck := hR k (by omega)
    iterate 3 refine Wp.go rfl ?_
    refine Wp.geN (a := k) (b := 8) hz (rfl : _ = nI 8) (by first | omega | (have := hck; omega)) (by first | omega | (have := hck; omega)) (fun (h1 : ¬ k < 8) => ?_) (fun (h1 : k < 8) => ?_)
    · iterate 2 refine Wp.go rfl ?_
      refine Wp.go rfl ?_
      refine Wp.ret rfl ?_
      exfalso; omega
    · iterate 4 refine Wp.go rfl ?_
      refine Wp.go (if_pos ⟨rfl, rfl, (inE (n := 420) (nE_add hx hz) (by first | omega | (have := hck; omega)))⟩) ?_
      iterate 4 refine Wp.go rfl ?_
      refine Wp.eqN (a := c.2 k) (b := 3) (rdE (nE_add hx hz) (by first | omega | (have := hck; omega)) (hR k (by omega)).1) (rfl : _ = nI 3) (by first | omega | (have := hck; omega)) (by first | omega | (have := hck; omega)) (fun (h2 : c.2 k = 3) => ?_) (fun (h2 : ¬ c.2 k = 3) => ?_)
      · iterate 2 refine Wp.go rfl ?_
        have hk8 : kA c k = c.2 k := kA_8 (by omega)
        have e1 : etA c E k = E := by unfold etA; rw [if_neg (by rw [hk8]; omega)]
        refine Wp.lo (lo := [(0, .inr (some 167)), (1, .inr (some 183)), (2, .inl _), (3, .inl _), (4, .inl _)]) ⟨rfl, rfl, rfl, rfl, rfl, trivial⟩ ?_
        have kk : ∀ (σ2 : mc_G), mEn (tlB (foR (etA c) n (k + 1) (etA c E k))) σ2 → mo [185] [27] σ0 σ2 → Φ none σ2 := kk
        rw [e1] at kk
        exact ih (k + 1) _ _ E _ (nE_add hz (rfl : _ = nI 1)) (by omega) hy hE (by omega) hR ho kk
      · iterate 5 refine Wp.go rfl ?_
        refine Wp.go (if_pos ⟨(show 185 < 187 by decide), rfl, (inE (n := 8) hE.1 (by first | omega | (have := hck; omega)))⟩) ?_
        iterate 5 refine Wp.go rfl ?_
        refine Wp.go rfl ?_
        have hE2 := hE.s (q := c.2 k) (by omega) hE.1 (rdE (nE_add hx hz) (by omega) (hR k (by omega)).1) hck.2
        iterate 2 refine Wp.go rfl ?_
        refine Wp.neN (a := c.2 k) (b := 0) (rdE (nE_add hx hz) (by first | omega | (have := hck; omega)) (hR k (by omega)).1) (rfl : _ = nI 0) (by first | omega | (have := hck; omega)) (by first | omega | (have := hck; omega)) (fun (h3 : ¬ c.2 k = 0) => ?_) (fun (h3 : c.2 k = 0) => ?_)
        · iterate 5 refine Wp.go rfl ?_
          have hk8 : kA c k = c.2 k := kA_8 (by omega)
          have e1 : etA c E k = (E.1 + 1, va_up E.2 E.1 (c.2 k)) := by unfold etA; rw [if_pos ⟨by rw [hk8]; omega, by omega⟩, hk8]
          refine Wp.lo (lo := [(0, .inr (some 167)), (1, .inr (some 183)), (2, .inl _), (3, .inl _), (4, .inl _)]) ⟨rfl, rfl, rfl, rfl, rfl, trivial⟩ ?_
          have kk : ∀ (σ2 : mc_G), mEn (tlB (foR (etA c) n (k + 1) (etA c E k))) σ2 → mo [185] [27] σ0 σ2 → Φ none σ2 := kk
          rw [e1] at kk
          exact ih (k + 1) _ _ (E.1 + 1, va_up E.2 E.1 (c.2 k)) _ (nE_add hz (rfl : _ = nI 1)) (by omega) (hE2.1.trans (congrArg nI (by rw [tm_s, if_neg (by omega)]))) hE2 (by show E.1 + 1 ≤ k + 1; omega) (fun j hj => hR j hj) (ho.tr ((mo.a _ (by decide) (by decide) _ _).tr (mo.f _ (by decide) _))) kk
        · iterate 5 refine Wp.go rfl ?_
          have hk8 : kA c k = c.2 k := kA_8 (by omega)
          have e1 : etA c E k = (E.1 + 1, va_up E.2 E.1 (c.2 k)) := by unfold etA; rw [if_pos ⟨by rw [hk8]; omega, by omega⟩, hk8]
          refine Wp.lo (lo := [(0, .inr (some 167)), (1, .inr (some 183)), (2, .inl _), (3, .inl _), (4, .inl _)]) ⟨rfl, rfl, rfl, rfl, rfl, trivial⟩ ?_
          have kk : ∀ (σ2 : mc_G), mEn (tlB (foR (etA c) n (k + 1) (etA c E k))) σ2 → mo [185] [27] σ0 σ2 → Φ none σ2 := kk
          rw [e1] at kk
          exact ih (k + 1) _ _ (E.1 + 1, va_up E.2 E.1 (c.2 k)) _ (nE_add hz (rfl : _ = nI 1)) (by omega) (hy.trans (congrArg nI (by rw [tm_s, if_pos (by omega)]))) hE2 (by show E.1 + 1 ≤ k + 1; omega) (fun j hj => hR j hj) (ho.tr ((mo.a _ (by decide) (by decide) _ _).tr (mo.f _ (by decide) _))) kk
set_option maxRecDepth 100000 in
theorem sX12_list183 {c : cS} {a : Nat} (ha : a + 14 ≤ 420) {x : Int32} (hx : x = nI a) {σ : mc_G} (hR : ∀ j, j < 8 → σ 183 (a + j) = nI (c.2 j) ∧ c.2 j < 300) : Wp miX12_list 0 [(0, .inr (some 167)), (1, .inr (some 183)), (2, .inl x)] [] σ (fun rv σ' => rv = none ∧ mEn (tlA c e0A) σ' ∧ mo [185] [27] σ σ') := by
  iterate 7 refine Wp.go rfl ?_
  refine Wp.lo (lo := [(0, .inr (some 167)), (1, .inr (some 183)), (2, .inl _), (3, .inl _), (4, .inl _)]) ⟨rfl, rfl, rfl, rfl, rfl, trivial⟩ ?_
  refine lX12_list183 (c := c) ha hx (σ0 := σ) 8 0 _ _ e0A (mc_up σ 167 27 0) (rfl : _ = nI 0) (by decide) rfl ⟨by rw [upj, if_pos rfl]; rfl, by decide, fun j hj => by cases hj⟩ (by decide) (fun j hj => ?_) (mo.f _ (by decide) _) (fun σ2 a1 a2 => ⟨rfl, a1, a2⟩)
  rw [mc_upn _ _ _ (by decide)]
  exact hR j hj
set_option maxRecDepth 100000 in
theorem lX12_list170 {c : cS} {a : Nat} (ha : a + 8 ≤ 8) {x : Int32} (hx : x = nI a) {σ0 : mc_G} {Φ : Option mc_V → mc_G → Prop} : ∀ (n k : Nat) (y z : Int32) (E : eS) (σ : mc_G), z = nI k → k + n = 8 → y = nI (tmA E.1 E).1 → mEn E σ → E.1 ≤ k → (∀ j, j < 8 → σ 170 (a + j) = nI (c.2 j) ∧ c.2 j < 300) → mo [185] [27] σ0 σ → (∀ (σ2 : mc_G), mEn (tlB (foR (etA c) n k E)) σ2 → mo [185] [27] σ0 σ2 → Φ none σ2) → Wp miX12_list 10 [(0, .inr (some 167)), (1, .inr (some 170)), (2, .inl x), (3, .inl y), (4, .inl z)] [] σ Φ := by
  intro n
  induction n with
  | zero =>
    intro k y z E σ hz hk hy hE hek hR ho kk
    iterate 3 refine Wp.go rfl ?_
    refine Wp.geN (a := k) (b := 8) hz (rfl : _ = nI 8) (by omega) (by omega) (fun (h1 : ¬ k < 8) => ?_) (fun (h1 : k < 8) => by omega)
    iterate 3 refine Wp.go rfl ?_
    refine Wp.ret rfl ?_
    refine kk _ ?_ (ho.tr (mo.f _ (by decide) _))
    show mEn (tlB E) _
    unfold tlB
    rw [show tmA E.1 E = ((tmA E.1 E).1, E.2) from Prod.ext rfl (tm_2 _ _)]
    exact hE.t hy (tm_le _ _)
  | succ n ih =>
    intro k y z E σ hz hk hy hE hek hR ho kk
    have hck := hR k (by omega)
    iterate 3 refine Wp.go rfl ?_
    refine Wp.geN (a := k) (b := 8) hz (rfl : _ = nI 8) (by first | omega | (have := hck; omega)) (by first | omega | (have := hck; omega)) (fun (h1 : ¬ k < 8) => ?_) (fun (h1 : k < 8) => ?_)
    · iterate 2 refine Wp.go rfl ?_
      refine Wp.go rfl ?_
      refine Wp.ret rfl ?_
      exfalso; omega
    · iterate 4 refine Wp.go rfl ?_
      refine Wp.go (if_pos ⟨rfl, rfl, (inE (n := 8) (nE_add hx hz) (by first | omega | (have := hck; omega)))⟩) ?_
      iterate 4 refine Wp.go rfl ?_
      refine Wp.eqN (a := c.2 k) (b := 3) (rdE (nE_add hx hz) (by first | omega | (have := hck; omega)) (hR k (by omega)).1) (rfl : _ = nI 3) (by first | omega | (have := hck; omega)) (by first | omega | (have := hck; omega)) (fun (h2 : c.2 k = 3) => ?_) (fun (h2 : ¬ c.2 k = 3) => ?_)
      · iterate 2 refine Wp.go rfl ?_
        have hk8 : kA c k = c.2 k := kA_8 (by omega)
        have e1 : etA c E k = E := by unfold etA; rw [if_neg (by rw [hk8]; omega)]
        refine Wp.lo (lo := [(0, .inr (some 167)), (1, .inr (some 170)), (2, .inl _), (3, .inl _), (4, .inl _)]) ⟨rfl, rfl, rfl, rfl, rfl, trivial⟩ ?_
        have kk : ∀ (σ2 : mc_G), mEn (tlB (foR (etA c) n (k + 1) (etA c E k))) σ2 → mo [185] [27] σ0 σ2 → Φ none σ2 := kk
        rw [e1] at kk
        exact ih (k + 1) _ _ E _ (nE_add hz (rfl : _ = nI 1)) (by omega) hy hE (by omega) hR ho kk
      · iterate 5 refine Wp.go rfl ?_
        refine Wp.go (if_pos ⟨(show 185 < 187 by decide), rfl, (inE (n := 8) hE.1 (by first | omega | (have := hck; omega)))⟩) ?_
        iterate 5 refine Wp.go rfl ?_
        refine Wp.go rfl ?_
        have hE2 := hE.s (q := c.2 k) (by omega) hE.1 (rdE (nE_add hx hz) (by omega) (hR k (by omega)).1) hck.2
        iterate 2 refine Wp.go rfl ?_
        refine Wp.neN (a := c.2 k) (b := 0) (rdE (nE_add hx hz) (by first | omega | (have := hck; omega)) (hR k (by omega)).1) (rfl : _ = nI 0) (by first | omega | (have := hck; omega)) (by first | omega | (have := hck; omega)) (fun (h3 : ¬ c.2 k = 0) => ?_) (fun (h3 : c.2 k = 0) => ?_)
        · iterate 5 refine Wp.go rfl ?_
          have hk8 : kA c k = c.2 k := kA_8 (by omega)
          have e1 : etA c E k = (E.1 + 1, va_up E.2 E.1 (c.2 k)) := by unfold etA; rw [if_pos ⟨by rw [hk8]; omega, by omega⟩, hk8]
          refine Wp.lo (lo := [(0, .inr (some 167)), (1, .inr (some 170)), (2, .inl _), (3, .inl _), (4, .inl _)]) ⟨rfl, rfl, rfl, rfl, rfl, trivial⟩ ?_
          have kk : ∀ (σ2 : mc_G), mEn (tlB (foR (etA c) n (k + 1) (etA c E k))) σ2 → mo [185] [27] σ0 σ2 → Φ none σ2 := kk
          rw [e1] at kk
          exact ih (k + 1) _ _ (E.1 + 1, va_up E.2 E.1 (c.2 k)) _ (nE_add hz (rfl : _ = nI 1)) (by omega) (hE2.1.trans (congrArg nI (by rw [tm_s, if_neg (by omega)]))) hE2 (by show E.1 + 1 ≤ k + 1; omega) (fun j hj => hR j hj) (ho.tr ((mo.a _ (by decide) (by decide) _ _).tr (mo.f _ (by decide) _))) kk
        · iterate 5 refine Wp.go rfl ?_
          have hk8 : kA c k = c.2 k := kA_8 (by omega)
          have e1 : etA c E k = (E.1 + 1, va_up E.2 E.1 (c.2 k)) := by unfold etA; rw [if_pos ⟨by rw [hk8]; omega, by omega⟩, hk8]
          refine Wp.lo (lo := [(0, .inr (some 167)), (1, .inr (some 170)), (2, .inl _), (3, .inl _), (4, .inl _)]) ⟨rfl, rfl, rfl, rfl, rfl, trivial⟩ ?_
          have kk : ∀ (σ2 : mc_G), mEn (tlB (foR (etA c) n (k + 1) (etA c E k))) σ2 → mo [185] [27] σ0 σ2 → Φ none σ2 := kk
          rw [e1] at kk
          exact ih (k + 1) _ _ (E.1 + 1, va_up E.2 E.1 (c.2 k)) _ (nE_add hz (rfl : _ = nI 1)) (by omega) (hy.trans (congrArg nI (by rw [tm_s, if_pos (by omega)]))) hE2 (by show E.1 + 1 ≤ k + 1; omega) (fun j hj => hR j hj) (ho.tr ((mo.a _ (by decide) (by decide) _ _).tr (mo.f _ (by decide) _))) kk
set_option maxRecDepth 100000 in
theorem sX12_list170 {c : cS} {a : Nat} (ha : a + 8 ≤ 8) {x : Int32} (hx : x = nI a) {σ : mc_G} (hR : ∀ j, j < 8 → σ 170 (a + j) = nI (c.2 j) ∧ c.2 j < 300) : Wp miX12_list 0 [(0, .inr (some 167)), (1, .inr (some 170)), (2, .inl x)] [] σ (fun rv σ' => rv = none ∧ mEn (tlA c e0A) σ' ∧ mo [185] [27] σ σ') := by
  iterate 7 refine Wp.go rfl ?_
  refine Wp.lo (lo := [(0, .inr (some 167)), (1, .inr (some 170)), (2, .inl _), (3, .inl _), (4, .inl _)]) ⟨rfl, rfl, rfl, rfl, rfl, trivial⟩ ?_
  refine lX12_list170 (c := c) ha hx (σ0 := σ) 8 0 _ _ e0A (mc_up σ 167 27 0) (rfl : _ = nI 0) (by decide) rfl ⟨by rw [upj, if_pos rfl]; rfl, by decide, fun j hj => by cases hj⟩ (by decide) (fun j hj => ?_) (mo.f _ (by decide) _) (fun σ2 a1 a2 => ⟨rfl, a1, a2⟩)
  rw [mc_upn _ _ _ (by decide)]
  exact hR j hj
theorem up_29 {σ : mc_G} {v : Int32} {q : Nat} (h : v = nI q) : mc_up σ 167 29 v 167 29 = nI q := by rw [upj, if_pos rfl]; exact h
theorem kSt {σ : mc_G} {p v : Int32} {k : Nat} {f : Nat → Nat} (h : ∀ j, j < k → σ 186 j = nI (f j) ∧ f j < 300) (hp : p = nI k) (hk : k < 8) (hv : v = nI (f k)) (hb : f k < 300) : ∀ j, j < k + 1 → mc_up σ 186 p.toNatClampNeg v 186 j = nI (f j) ∧ f j < 300 := by
  intro j hj
  rw [clE hp (by omega), upj]
  by_cases q : j = k
  · rw [if_pos q, q]; exact ⟨hv, hb⟩
  · rw [if_neg q]; exact h j (by omega)
set_option maxRecDepth 100000 in
theorem lX12_keep {E : eS} : ∀ (n k : Nat) (z : Int32) (σ : mc_G), z = nI k → k ≤ E.1 → E.1 - k < n → mEn E σ → (∀ j, j < k → σ 186 j = nI (E.2 j) ∧ E.2 j < 300) → Wp miX12_keepEntries 2 [(0, .inr (some 167)), (1, .inl z)] [] σ (fun rv σ' => rv = none ∧ mBe E σ' ∧ mo [186] [29] σ σ') := by
  intro n
  induction n with
  | zero => intro k z σ hz hk h; omega
  | succ n ih =>
    intro k z σ hz hk hn hE hA
    have h8 := hE.2.1
    iterate 4 refine Wp.go rfl ?_
    refine Wp.geN (a := k) (b := E.1) hz hE.1 (by omega) (by omega) (fun (h1 : ¬ k < E.1) => ?_) (fun (h1 : k < E.1) => ?_)
    · iterate 3 refine Wp.go rfl ?_
      refine Wp.go rfl ?_
      refine Wp.ret rfl ?_
      refine ⟨rfl, ⟨up_29 hE.1, hE.2.1, fun j hj => ?_⟩, mo.f _ (by decide) _⟩
      rw [mc_upn _ _ _ (by decide)]
      exact hA j (by omega)
    · iterate 6 refine Wp.go rfl ?_
      refine Wp.go (if_pos ⟨rfl, rfl, (inE (n := 8) hz (by omega))⟩) ?_
      refine Wp.go (if_pos ⟨(show 186 < 187 by decide), rfl, (inE (n := 8) hz (by omega))⟩) ?_
      iterate 2 refine Wp.go rfl ?_
      refine Wp.lo (lo := [(0, .inr (some 167)), (1, .inl _)]) ⟨rfl, rfl, trivial⟩ ?_
      refine (ih (k + 1) _ _ (nE_add hz (rfl : _ = nI 1)) (by omega) (by omega) (hE.o (mo.a (cs := [186]) (fs := []) _ (by decide) (by decide) _ _)) (kSt hA hz (by omega) (rdE hz (by omega) (hE.2.2 k (by omega)).1) (hE.2.2 k (by omega)).2)).mono (fun rv σ2 q => ⟨q.1, q.2.1, (mo.a _ (by decide) (by decide) _ _).tr q.2.2⟩)
theorem sX12_keepEntries {E : eS} {σ : mc_G} (hE : mEn E σ) : Wp miX12_keepEntries 0 [(0, .inr (some 167))] [] σ (fun rv σ' => rv = none ∧ mBe E σ' ∧ mo [186] [29] σ σ') := by
  iterate 2 refine Wp.go rfl ?_
  refine Wp.lo (lo := [(0, .inr (some 167)), (1, .inl _)]) ⟨rfl, rfl, trivial⟩ ?_
  exact lX12_keep (E.1 + 1) 0 _ σ (rfl : _ = nI 0) (by omega) (by omega) hE (fun j hj => by omega)
def mBy (W : wS) (σ : mc_G) : Prop := σ 167 24 = nI W.1 ∧ W.1 ≤ 960 ∧ ∀ j, j < W.1 → σ 184 j = nI (W.2 j)
theorem mBy.o {W : wS} {σ σ' : mc_G} {cs fs : List Nat} (k : mBy W σ) (o : mo cs fs σ σ') (h1 : ¬ 184 ∈ cs := by decide) (h2 : ¬ 24 ∈ fs := by decide) : mBy W σ' := by
  unfold mBy; rw [o.1 184 (by decide) h1, o.2 24 h2]; exact k
theorem mBy.s {W : wS} {σ : mc_G} {q : Nat} {p v : Int32} (h : mBy W σ) (h9 : W.1 < 960) (hp : p = nI W.1) (hv : v = nI q) : mBy (wa1 W q) (mc_up (mc_up σ 184 p.toNatClampNeg v) 167 24 (σ 167 24 + 1)) := by
  unfold wa1
  rw [if_pos h9]
  refine ⟨?_, h9, fun j hj => ?_⟩
  · rw [upj, if_pos rfl]; exact nE_add h.1 (rfl : _ = nI 1)
  · have hj' : j < W.1 + 1 := hj
    rw [mc_upn _ _ _ (by decide), clE hp (by omega), upj]
    show (if j = W.1 then v else σ 184 j) = nI (va_up W.2 W.1 q j)
    unfold va_up
    by_cases e : j = W.1
    · rw [if_pos e, if_pos e]; exact hv
    · rw [if_neg e, if_neg e]; exact h.2.2 j (by omega)
theorem wa_1 {W : wS} {q : Nat} (h : W.1 < 960) : (wa1 W q).1 = W.1 + 1 := by unfold wa1; rw [if_pos h]
theorem waL_1 : ∀ (l : List Nat) (W : wS), W.1 + l.length ≤ 960 → (waL W l).1 = W.1 + l.length
  | [], W, _ => rfl
  | x :: l, W, h => by
    have h' : W.1 + (l.length + 1) ≤ 960 := h
    show (waL (wa1 W x) l).1 = W.1 + (l.length + 1)
    rw [waL_1 l (wa1 W x) (by rw [wa_1 (by omega)]; omega), wa_1 (by omega)]
    omega
theorem kd_len (k : Nat) : (kdL k).length ≤ 2 := by unfold kdL; split; simp; split <;> simp
set_option maxRecDepth 100000 in
theorem sX12_put {W : wS} {σ : mc_G} (hW : mBy W σ) (h9 : W.1 < 960) {x : Int32} {q : Nat} (hx : x = nI q) : Wp miX12_put 0 [(0, .inr (some 167)), (1, .inl x)] [] σ (fun rv σ' => rv = none ∧ mBy (wa1 W q) σ' ∧ mo [184] [24] σ σ') := by
  iterate 5 refine Wp.go rfl ?_
  refine Wp.go (if_pos ⟨(show 184 < 187 by decide), rfl, inE (n := 1200) hW.1 (by omega)⟩) ?_
  iterate 6 refine Wp.go rfl ?_
  refine Wp.ret rfl ?_
  exact ⟨rfl, hW.s h9 hW.1 hx, (mo.a _ (by decide) (by decide) _ _).tr (mo.f _ (by decide) _)⟩
set_option maxRecDepth 100000 in
theorem sX12_putEntry {W : wS} {σ : mc_G} (hW : mBy W σ) (h9 : W.1 + 2 ≤ 960) {x : Int32} {k : Nat} (hx : x = nI k) (hk : k < 300) : Wp miX12_putEntry 0 [(0, .inr (some 167)), (1, .inl x)] [] σ (fun rv σ' => rv = none ∧ mBy (waL W (kdL k)) σ' ∧ mo [184] [24] σ σ') := by
  iterate 3 refine Wp.go rfl ?_
  refine Wp.geN (a := k) (b := 100) hx (rfl : _ = nI 100) (by omega) (by omega) (fun (h1 : ¬ k < 100) => ?_) (fun (h1 : k < 100) => ?_)
  · iterate 4 refine Wp.go rfl ?_
    refine Wp.geN (a := k) (b := 200) hx (rfl : _ = nI 200) (by omega) (by omega) (fun (h2 : ¬ k < 200) => ?_) (fun (h2 : k < 200) => ?_)
    · refine Wp.go rfl ?_
      refine Wp.call rfl cqX12_put (sX12_put hW (by omega) (rfl : _ = nI 8)) (fun rv1 s1 hq1 => ?_)
      obtain ⟨rfl, hW1, ho1⟩ := hq1
      iterate 4 refine Wp.go rfl ?_
      refine Wp.geN (a := k) (b := 200) hx (rfl : _ = nI 200) (by omega) (by omega) (fun (h3 : ¬ k < 200) => ?_) (fun (h3 : k < 200) => ?_)
      · iterate 3 refine Wp.go rfl ?_
        refine Wp.call rfl cqX12_put (sX12_put hW1 (by rw [wa_1 (by omega)]; omega) (nE_sub hx (rfl : _ = nI 200) (by omega))) (fun rv2 s2 hq2 => ?_)
        obtain ⟨rfl, hW2, ho2⟩ := hq2
        refine Wp.ret rfl ?_
        refine ⟨rfl, ?_, ((mo.rf).tr ho1).tr ho2⟩
        unfold kdL
        rw [if_pos (by omega)]
        exact hW2
      · iterate 4 refine Wp.go rfl ?_
        refine Wp.call rfl cqX12_put (sX12_put hW1 (by rw [wa_1 (by omega)]; omega) (nE_sub hx (rfl : _ = nI 100) (by omega))) (fun rv3 s3 hq3 => ?_)
        obtain ⟨rfl, hW3, ho3⟩ := hq3
        refine Wp.ret rfl ?_
        exfalso; omega
    · iterate 2 refine Wp.go rfl ?_
      refine Wp.call rfl cqX12_put (sX12_put hW (by omega) (rfl : _ = nI 7)) (fun rv4 s4 hq4 => ?_)
      obtain ⟨rfl, hW4, ho4⟩ := hq4
      iterate 4 refine Wp.go rfl ?_
      refine Wp.geN (a := k) (b := 200) hx (rfl : _ = nI 200) (by omega) (by omega) (fun (h4 : ¬ k < 200) => ?_) (fun (h4 : k < 200) => ?_)
      · iterate 3 refine Wp.go rfl ?_
        refine Wp.call rfl cqX12_put (sX12_put hW4 (by rw [wa_1 (by omega)]; omega) (nE_sub hx (rfl : _ = nI 200) (by omega))) (fun rv5 s5 hq5 => ?_)
        obtain ⟨rfl, hW5, ho5⟩ := hq5
        refine Wp.ret rfl ?_
        exfalso; omega
      · iterate 4 refine Wp.go rfl ?_
        refine Wp.call rfl cqX12_put (sX12_put hW4 (by rw [wa_1 (by omega)]; omega) (nE_sub hx (rfl : _ = nI 100) (by omega))) (fun rv6 s6 hq6 => ?_)
        obtain ⟨rfl, hW6, ho6⟩ := hq6
        refine Wp.ret rfl ?_
        refine ⟨rfl, ?_, ((mo.rf).tr ho4).tr ho6⟩
        unfold kdL
        rw [if_neg (by omega), if_pos (by omega)]
        exact hW6
  · iterate 2 refine Wp.go rfl ?_
    refine Wp.call rfl cqX12_put (sX12_put hW (by omega) hx) (fun rv7 s7 hq7 => ?_)
    obtain ⟨rfl, hW7, ho7⟩ := hq7
    refine Wp.go rfl ?_
    refine Wp.ret rfl ?_
    refine ⟨rfl, ?_, (mo.rf).tr ho7⟩
    unfold kdL
    rw [if_neg (by omega), if_neg (by omega)]
    exact hW7
set_option maxRecDepth 100000 in
theorem lX12_puts {E : eS} {x : Int32} : ∀ (n i : Nat) (z : Int32) (W : wS) (σ : mc_G), z = nI i → i ≤ 8 → n = E.1 - i → mBy W σ → W.1 + 2 * n ≤ 960 → mEn E σ → Wp miX12_putEntries 2 [(0, .inr (some 167)), (1, .inl (x)), (2, .inl z)] [] σ (fun rv σ' => rv = none ∧ mBy (foR (enS E) n i W) σ' ∧ mo [184] [24] σ σ') := by
  intro n
  induction n with
  | zero =>
    intro i z W σ hz hi8 hn hW h9 hE
    have h8 := hE.2.1
    · iterate 4 refine Wp.go rfl ?_
      refine Wp.geN (a := i) (b := E.1) hz hE.1 (by omega) (by omega) (fun (h1 : ¬ i < E.1) => ?_) (fun (h1 : i < E.1) => by omega)
      refine Wp.ret rfl ?_
      exact ⟨rfl, hW, mo.rf⟩
  | succ n ih =>
    intro i z W σ hz hi8 hn hW h9 hE
    have h8 := hE.2.1
    iterate 4 refine Wp.go rfl ?_
    refine Wp.geN (a := i) (b := E.1) hz hE.1 (by omega) (by omega) (fun (h1 : ¬ i < E.1) => ?_) (fun (h1 : i < E.1) => ?_)
    · refine Wp.ret rfl ?_
      exfalso; omega
    · iterate 4 refine Wp.go rfl ?_
      refine Wp.go (if_pos ⟨rfl, rfl, (inE (n := 8) hz (by omega))⟩) ?_
      refine Wp.call rfl cqX12_putEntry (sX12_putEntry hW (by omega) (rdE hz (by omega) (hE.2.2 i (by omega)).1) (hE.2.2 i (by omega)).2) (fun rv1 s1 hq1 => ?_)
      obtain ⟨rfl, hW1, ho1⟩ := hq1
      iterate 2 refine Wp.go rfl ?_
      refine Wp.lo (lo := [(0, .inr (some 167)), (1, .inl _), (2, .inl _)]) ⟨rfl, rfl, rfl, trivial⟩ ?_
      have e1 : enS E W i = waL W (kdL (E.2 i)) := by unfold enS ekA; rw [if_pos (by omega)]
      have hl := kd_len (E.2 i)
      have e2 := waL_1 (kdL (E.2 i)) W (by omega)
      rw [← e1] at hW1 e2
      refine (ih (i + 1) _ (enS E W i) _ (nE_add hz (rfl : _ = nI 1)) (by omega) (by omega) hW1 (by omega) (hE.o ho1)).mono (fun rv σ2 q => ⟨q.1, q.2.1, ho1.tr q.2.2⟩)
set_option maxRecDepth 100000 in
theorem sX12_putEntries {E : eS} {W : wS} {σ : mc_G} (hE : mEn E σ) (hW : mBy W σ) {x : Int32} {f : Nat} (hx : x = nI f) (hf : f ≤ 8) (h9 : W.1 + 2 * (E.1 - f) ≤ 960) : Wp miX12_putEntries 0 [(0, .inr (some 167)), (1, .inl x)] [] σ (fun rv σ' => rv = none ∧ mBy (waL W (enL E f)) σ' ∧ mo [184] [24] σ σ') := by
  iterate 2 refine Wp.go rfl ?_
  refine Wp.lo (lo := [(0, .inr (some 167)), (1, .inl _), (2, .inl _)]) ⟨rfl, rfl, rfl, trivial⟩ ?_
  have := lX12_puts (x := x) (E.1 - f) f x W σ hx hf rfl hW h9 hE
  rw [waL_en] at this
  exact this

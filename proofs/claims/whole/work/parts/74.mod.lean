/-! how the reference writes a FRAME -/
theorem fm_cg {α : Type} {f g : Nat → List α} : ∀ (l : List Nat), (∀ i, i ∈ l → f i = g i) → l.flatMap f = l.flatMap g
  | [], _ => rfl
  | x :: l, h => by
    rw [List.flatMap_cons, List.flatMap_cons, h x (List.mem_cons_self ..), fm_cg l (fun i hi => h i (List.mem_cons_of_mem _ hi))]
theorem en_s {E : eS} {q : Nat} : enL (E.1 + 1, va_up E.2 E.1 q) 0 = enL E 0 ++ kdL q := by
  unfold enL
  show (List.range' 0 (E.1 + 1 - 0)).flatMap _ = _
  rw [Nat.sub_zero, Nat.sub_zero, List.range'_concat, List.flatMap_append]
  congr 1
  · apply fm_cg
    intro i hi
    have hi' : i < E.1 := by simpa [List.mem_range'] using hi
    have e1 : ekA (E.1 + 1, va_up E.2 E.1 q) i = E.2 i := by
      unfold ekA
      rw [if_pos (by show i < E.1 + 1; omega)]
      exact if_neg (by omega)
    have e2 : ekA E i = E.2 i := if_pos hi'
    show kdL _ = kdL _
    rw [e1, e2]
  · rw [List.flatMap_cons, List.flatMap_nil, List.append_nil]
    unfold ekA va_up
    simp
theorem en_len (E : eS) : ∀ (n f : Nat), ((List.range' f n).flatMap (fun i => kdL (ekA E i))).length ≤ 2 * n
  | 0, f => by simp
  | n + 1, f => by
    rw [List.range'_succ, List.flatMap_cons, List.length_append]
    have := en_len E n (f + 1)
    have := kd_len (ekA E f)
    omega
theorem en_l (E : eS) (f : Nat) : (enL E f).length ≤ 2 * (E.1 - f) := en_len E _ _
theorem et_le {c : cS} {E : eS} {p : Nat} : (etA c E p).1 ≤ E.1 + 1 := by
  unfold etA; split
  · exact Nat.le_refl _
  · exact Nat.le_succ _
set_option maxRecDepth 100000 in
theorem lX12_pm {c : cS} {a : Nat} (h6 : c.1 ≤ 6) (ha : a + 14 ≤ 420) {x y : Int32} (hx : x = nI a) (hy : y = nI c.1) {σ : mc_G} (hR : ∀ j, j < 8 + c.1 → σ 183 (a + j) = nI (c.2 j) ∧ c.2 j < 300) : ∀ (n k : Nat) (v z : Int32) (E : eS), z = nI k → v = nI E.1 → k + n = c.1 → E.1 ≤ k → Wp miX12_pileMany 5 [(0, .inr (some 167)), (1, .inl x), (2, .inl y), (3, .inl v), (4, .inl z)] [] σ (fun rv σ' => rv = some (.inl (nI (foR (etA c) n (8 + k) E).1)) ∧ σ' = σ) := by
  intro n
  induction n with
  | zero =>
    intro k v z E hz hw hk hE
    iterate 3 refine Wp.go rfl ?_
    refine Wp.geN (a := k) (b := c.1) hz hy (by omega) (by omega) (fun (h1 : ¬ k < c.1) => ?_) (fun (h1 : k < c.1) => by omega)
    refine Wp.go rfl ?_
    refine Wp.ret rfl ?_
    exact ⟨rvN hw rfl, rfl⟩
  | succ n ih =>
    intro k v z E hz hw hk hE
    have hck := hR (8 + k) (by omega)
    iterate 3 refine Wp.go rfl ?_
    refine Wp.geN (a := k) (b := c.1) hz hy (by omega) (by omega) (fun (h1 : ¬ k < c.1) => ?_) (fun (h1 : k < c.1) => ?_)
    · refine Wp.go rfl ?_
      refine Wp.ret rfl ?_
      exfalso; omega
    · iterate 8 refine Wp.go rfl ?_
      refine Wp.go (if_pos ⟨rfl, rfl, (inE (n := 420) ((nE_add (nE_add hx (rfl : _ = nI 8)) hz).trans (by rw [Nat.add_assoc])) (by omega))⟩) ?_
      iterate 2 refine Wp.go rfl ?_
      refine Wp.neN (a := c.2 (8 + k)) (b := 3) (rdE ((nE_add (nE_add hx (rfl : _ = nI 8)) hz).trans (by rw [Nat.add_assoc])) (by omega) hck.1) (rfl : _ = nI 3) (by omega) (by omega) (fun (h2 : ¬ c.2 (8 + k) = 3) => ?_) (fun (h2 : c.2 (8 + k) = 3) => ?_)
      · iterate 5 refine Wp.go rfl ?_
        have hk8 : kA c (8 + k) = c.2 (8 + k) := by unfold kA; rw [if_pos (by omega)]
        have e1 : etA c E (8 + k) = (E.1 + 1, va_up E.2 E.1 (c.2 (8 + k))) := by unfold etA; rw [if_pos ⟨by rw [hk8]; omega, by omega⟩, hk8]
        refine Wp.lo (lo := [(0, .inr (some 167)), (1, .inl _), (2, .inl _), (3, .inl _), (4, .inl _)]) ⟨rfl, rfl, rfl, rfl, rfl, trivial⟩ ?_
        refine (ih (k + 1) _ _ (etA c E (8 + k)) (nE_add hz (rfl : _ = nI 1)) (by rw [e1]; exact (nE_add hw (rfl : _ = nI 1))) (by omega) (by rw [e1]; show E.1 + 1 ≤ k + 1; omega)).mono (fun rv σ2 q => ⟨q.1, q.2⟩)
      · iterate 6 refine Wp.go rfl ?_
        have hk8 : kA c (8 + k) = c.2 (8 + k) := by unfold kA; rw [if_pos (by omega)]
        have e1 : etA c E (8 + k) = E := by unfold etA; rw [if_neg (by rw [hk8]; omega)]
        refine Wp.lo (lo := [(0, .inr (some 167)), (1, .inl _), (2, .inl _), (3, .inl _), (4, .inl _)]) ⟨rfl, rfl, rfl, rfl, rfl, trivial⟩ ?_
        refine (ih (k + 1) _ _ E (nE_add hz (rfl : _ = nI 1)) ((nE_add hw (rfl : _ = nI 0)).trans (by rw [Nat.add_zero])) (by omega) (by omega)).mono (fun rv σ2 q => ⟨?_, q.2⟩)
        rw [q.1]
        show _ = some (Sum.inl (nI (foR (etA c) n (8 + k + 1) (etA c E (8 + k))).1))
        rw [e1]; rfl
theorem sX12_pileMany {c : cS} {a : Nat} (h6 : c.1 ≤ 6) (ha : a + 14 ≤ 420) {x y : Int32} (hx : x = nI a) (hy : y = nI c.1) {σ : mc_G} (hR : ∀ j, j < 8 + c.1 → σ 183 (a + j) = nI (c.2 j) ∧ c.2 j < 300) : Wp miX12_pileMany 0 [(0, .inr (some 167)), (1, .inl x), (2, .inl y)] [] σ (fun rv σ' => rv = some (.inl (nI (tqA c e0A).1)) ∧ σ' = σ) := by
  iterate 4 refine Wp.go rfl ?_
  refine Wp.lo (lo := [(0, .inr (some 167)), (1, .inl _), (2, .inl _), (3, .inl _), (4, .inl _)]) ⟨rfl, rfl, rfl, rfl, rfl, trivial⟩ ?_
  have := lX12_pm h6 ha hx hy hR c.1 0 0 0 e0A (rfl : _ = nI 0) rfl (by omega) (by decide)
  rw [show c.1 = 8 + c.1 - 8 by omega] at this
  exact this
set_option maxRecDepth 100000 in
theorem lX12_pp {c : cS} {a : Nat} (h6 : c.1 ≤ 6) (ha : a + 14 ≤ 420) {x y : Int32} (hx : x = nI a) (hy : y = nI c.1) {W : wS} (h9 : W.1 + 12 ≤ 960) : ∀ (n k : Nat) (z : Int32) (E : eS) (σ : mc_G), z = nI k → k + n = c.1 → E.1 ≤ k → mBy (waL W (enL E 0)) σ → (∀ j, j < 8 + c.1 → σ 183 (a + j) = nI (c.2 j) ∧ c.2 j < 300) → Wp miX12_putPile 2 [(0, .inr (some 167)), (1, .inl x), (2, .inl y), (3, .inl z)] [] σ (fun rv σ' => rv = none ∧ mBy (waL W (enL (foR (etA c) n (8 + k) E) 0)) σ' ∧ mo [184] [24] σ σ') := by
  intro n
  induction n with
  | zero =>
    intro k z E σ hz hk hE hW hR
    iterate 3 refine Wp.go rfl ?_
    refine Wp.geN (a := k) (b := c.1) hz hy (by omega) (by omega) (fun (h1 : ¬ k < c.1) => ?_) (fun (h1 : k < c.1) => by omega)
    refine Wp.ret rfl ?_
    exact ⟨rfl, hW, mo.rf⟩
  | succ n ih =>
    intro k z E σ hz hk hE hW hR
    have hck := hR (8 + k) (by omega)
    have hl := en_l E 0
    have hw9 : (waL W (enL E 0)).1 + 2 ≤ 960 := by rw [waL_1 _ _ (by omega)]; omega
    iterate 3 refine Wp.go rfl ?_
    refine Wp.geN (a := k) (b := c.1) hz hy (by omega) (by omega) (fun (h1 : ¬ k < c.1) => ?_) (fun (h1 : k < c.1) => ?_)
    · refine Wp.ret rfl ?_
      exfalso; omega
    · iterate 7 refine Wp.go rfl ?_
      refine Wp.go (if_pos ⟨rfl, rfl, (inE (n := 420) ((nE_add (nE_add hx (rfl : _ = nI 8)) hz).trans (by rw [Nat.add_assoc])) (by omega))⟩) ?_
      iterate 2 refine Wp.go rfl ?_
      refine Wp.eqN (a := c.2 (8 + k)) (b := 3) (rdE ((nE_add (nE_add hx (rfl : _ = nI 8)) hz).trans (by rw [Nat.add_assoc])) (by omega) hck.1) (rfl : _ = nI 3) (by omega) (by omega) (fun (h2 : c.2 (8 + k) = 3) => ?_) (fun (h2 : ¬ c.2 (8 + k) = 3) => ?_)
      · iterate 2 refine Wp.go rfl ?_
        have hk8 : kA c (8 + k) = c.2 (8 + k) := by unfold kA; rw [if_pos (by omega)]
        have e1 : etA c E (8 + k) = E := by unfold etA; rw [if_neg (by rw [hk8]; omega)]
        refine Wp.lo (lo := [(0, .inr (some 167)), (1, .inl _), (2, .inl _), (3, .inl _)]) ⟨rfl, rfl, rfl, rfl, trivial⟩ ?_
        refine (ih (k + 1) _ (etA c E (8 + k)) _ (nE_add hz (rfl : _ = nI 1)) (by omega) (by rw [e1]; omega) (by rw [e1]; exact hW) hR).mono (fun rv σ2 q => ⟨q.1, q.2.1, q.2.2⟩)
      · iterate 8 refine Wp.go rfl ?_
        refine Wp.go (if_pos ⟨rfl, rfl, (inE (n := 420) ((nE_add (nE_add hx (rfl : _ = nI 8)) hz).trans (by rw [Nat.add_assoc])) (by omega))⟩) ?_
        refine Wp.call rfl cqX12_putEntry (sX12_putEntry hW hw9 (rdE ((nE_add (nE_add hx (rfl : _ = nI 8)) hz).trans (by rw [Nat.add_assoc])) (by omega) hck.1) hck.2) (fun rv1 s1 hq1 => ?_)
        obtain ⟨rfl, hW1, ho1⟩ := hq1
        iterate 2 refine Wp.go rfl ?_
        have hk8 : kA c (8 + k) = c.2 (8 + k) := by unfold kA; rw [if_pos (by omega)]
        have e1 : etA c E (8 + k) = (E.1 + 1, va_up E.2 E.1 (c.2 (8 + k))) := by unfold etA; rw [if_pos ⟨by rw [hk8]; omega, by omega⟩, hk8]
        refine Wp.lo (lo := [(0, .inr (some 167)), (1, .inl _), (2, .inl _), (3, .inl _)]) ⟨rfl, rfl, rfl, rfl, trivial⟩ ?_
        refine (ih (k + 1) _ (etA c E (8 + k)) _ (nE_add hz (rfl : _ = nI 1)) (by omega) (by rw [e1]; show E.1 + 1 ≤ k + 1; omega) (by rw [e1, en_s, waL_app]; exact hW1) (fun j hj => by rw [ho1.1 183 (by decide) (by decide)]; exact hR j hj)).mono (fun rv σ2 q => ⟨q.1, q.2.1, ho1.tr q.2.2⟩)
theorem sX12_putPile {c : cS} {a : Nat} (h6 : c.1 ≤ 6) (ha : a + 14 ≤ 420) {x y : Int32} (hx : x = nI a) (hy : y = nI c.1) {W : wS} (h9 : W.1 + 12 ≤ 960) {σ : mc_G} (hW : mBy W σ) (hR : ∀ j, j < 8 + c.1 → σ 183 (a + j) = nI (c.2 j) ∧ c.2 j < 300) : Wp miX12_putPile 0 [(0, .inr (some 167)), (1, .inl x), (2, .inl y)] [] σ (fun rv σ' => rv = none ∧ mBy (waL W (enL (tqA c e0A) 0)) σ' ∧ mo [184] [24] σ σ') := by
  iterate 2 refine Wp.go rfl ?_
  refine Wp.lo (lo := [(0, .inr (some 167)), (1, .inl _), (2, .inl _), (3, .inl _)]) ⟨rfl, rfl, rfl, rfl, trivial⟩ ?_
  have := lX12_pp h6 ha hx hy h9 c.1 0 0 e0A σ (rfl : _ = nI 0) (by omega) (by decide) hW hR
  rw [show foR (etA c) c.1 (8 + 0) e0A = tqA c e0A by unfold tqA teA; rw [show 8 + c.1 - 8 = c.1 by omega]; rfl] at this
  exact this
theorem foR_s {α : Type} {f : α → Nat → α} : ∀ (n i : Nat) (a : α), foR f (n + 1) i a = f (foR f n i a) (i + n)
  | 0, i, a => rfl
  | n + 1, i, a => by
    show foR f (n + 1) (i + 1) (f a i) = _
    rw [foR_s n (i + 1) (f a i)]
    show f (foR f n (i + 1) (f a i)) (i + 1 + n) = f (foR f n (i + 1) (f a i)) (i + (n + 1))
    rw [show i + 1 + n = i + (n + 1) by omega]
def alk (L B : eS) (k al : Nat) : Prop := al ≤ min L.1 B.1 ∧ (foR (bkS L B) k 0 true = true → al = min L.1 B.1) ∧ (foR (bkS L B) k 0 true = false → al < min L.1 B.1)
theorem alk.s {L B : eS} {k al : Nat} (h : alk L B k al) (h1 : k < L.1) (h2 : k < B.1) (hlt : foR (bkS L B) k 0 true = false → al < k) : alk L B (k + 1) (if ¬ L.2 k = B.2 k ∧ k < al then k else al) ∧ (foR (bkS L B) (k + 1) 0 true = false → (if ¬ L.2 k = B.2 k ∧ k < al then k else al) < k + 1) := by
  have e1 : foR (bkS L B) (k + 1) 0 true = (foR (bkS L B) k 0 true && decide (L.2 k = B.2 k)) := by
    rw [foR_s, Nat.zero_add]; unfold bkS ekA; rw [if_pos h1, if_pos h2]
  unfold alk at *
  rw [e1]
  obtain ⟨a1, a2, a3⟩ := h
  cases hb : foR (bkS L B) k 0 true
  · have := a3 hb
    have := hlt hb
    rw [if_neg (by omega)]
    simp
    omega
  · have := a2 hb
    by_cases q : L.2 k = B.2 k
    · rw [if_neg (by simp [q])]
      simp [q]
      omega
    · rw [if_pos ⟨q, by omega⟩]
      simp [q]
      omega
set_option maxRecDepth 100000 in
theorem lX12_wrA {L B : eS} {σ : mc_G} (hL : mEn L σ) (hB : mBe B σ) {x d g f q : Int32} {Φ : Option mc_V → mc_G → Prop} (kk : ∀ (al : Nat) (v z : Int32), v = nI al → alk L B (min L.1 B.1) al → Wp miX12_write 115 [(0, .inr (some 167)), (1, .inl x), (2, .inl d), (3, .inl g), (4, .inl f), (5, .inl q), (6, .inl v), (7, .inl z)] [] σ Φ) : ∀ (n k al : Nat) (v z : Int32), z = nI k → v = nI al → k ≤ min L.1 B.1 → min L.1 B.1 - k < n → alk L B k al → (foR (bkS L B) k 0 true = false → al < k) → Wp miX12_write 58 [(0, .inr (some 167)), (1, .inl (x)), (2, .inl (d)), (3, .inl (g)), (4, .inl (f)), (5, .inl (q)), (6, .inl v), (7, .inl z)] [] σ Φ := by
  have hl8 := hL.2.1
  have hb8 := hB.2.1
  intro n
  induction n with
  | zero => intro k al v z hz hw hk h; omega
  | succ n ih =>
    intro k al v z hz hw hk hn hA hlt
    have ha8 := hA.1
    iterate 4 refine Wp.go rfl ?_
    refine Wp.geN (a := k) (b := L.1) hz hL.1 (by first | omega | (have := (hL.2.2 k (by omega)).2; have := (hB.2.2 k (by omega)).2; omega)) (by first | omega | (have := (hL.2.2 k (by omega)).2; have := (hB.2.2 k (by omega)).2; omega)) (fun (h1 : ¬ k < L.1) => ?_) (fun (h1 : k < L.1) => ?_)
    · refine Wp.lo (lo := [(0, .inr (some 167)), (1, .inl _), (2, .inl _), (3, .inl _), (4, .inl _), (5, .inl _), (6, .inl _), (7, .inl _)]) ⟨rfl, rfl, rfl, rfl, rfl, rfl, rfl, rfl, trivial⟩ ?_
      have e1 : k = min L.1 B.1 := by omega
      rw [e1] at hA
      exact kk _ _ _ hw hA
    · iterate 4 refine Wp.go rfl ?_
      refine Wp.geN (a := k) (b := B.1) hz hB.1 (by first | omega | (have := (hL.2.2 k (by omega)).2; have := (hB.2.2 k (by omega)).2; omega)) (by first | omega | (have := (hL.2.2 k (by omega)).2; have := (hB.2.2 k (by omega)).2; omega)) (fun (h2 : ¬ k < B.1) => ?_) (fun (h2 : k < B.1) => ?_)
      · refine Wp.lo (lo := [(0, .inr (some 167)), (1, .inl _), (2, .inl _), (3, .inl _), (4, .inl _), (5, .inl _), (6, .inl _), (7, .inl _)]) ⟨rfl, rfl, rfl, rfl, rfl, rfl, rfl, rfl, trivial⟩ ?_
        have e1 : k = min L.1 B.1 := by omega
        rw [e1] at hA
        exact kk _ _ _ hw hA
      · iterate 3 refine Wp.go rfl ?_
        refine Wp.go (if_pos ⟨rfl, rfl, (inE (n := 8) hz (by first | omega | (have := (hL.2.2 k (by omega)).2; have := (hB.2.2 k (by omega)).2; omega)))⟩) ?_
        iterate 3 refine Wp.go rfl ?_
        refine Wp.go (if_pos ⟨rfl, rfl, (inE (n := 8) hz (by first | omega | (have := (hL.2.2 k (by omega)).2; have := (hB.2.2 k (by omega)).2; omega)))⟩) ?_
        refine Wp.go rfl ?_
        refine Wp.eqN (a := L.2 k) (b := B.2 k) (rdE hz (by first | omega | (have := (hL.2.2 k (by omega)).2; have := (hB.2.2 k (by omega)).2; omega)) (hL.2.2 k (by omega)).1) (rdE hz (by first | omega | (have := (hL.2.2 k (by omega)).2; have := (hB.2.2 k (by omega)).2; omega)) (hB.2.2 k (by omega)).1) (by first | omega | (have := (hL.2.2 k (by omega)).2; have := (hB.2.2 k (by omega)).2; omega)) (by first | omega | (have := (hL.2.2 k (by omega)).2; have := (hB.2.2 k (by omega)).2; omega)) (fun (h3 : L.2 k = B.2 k) => ?_) (fun (h3 : ¬ L.2 k = B.2 k) => ?_)
        · iterate 4 refine Wp.go rfl ?_
          refine Wp.lo (lo := [(0, .inr (some 167)), (1, .inl _), (2, .inl _), (3, .inl _), (4, .inl _), (5, .inl _), (6, .inl _), (7, .inl _)]) ⟨rfl, rfl, rfl, rfl, rfl, rfl, rfl, rfl, trivial⟩ ?_
          have hs := hA.s (by omega) (by omega) hlt
          refine ih (k + 1) _ _ _ (nE_add hz (rfl : _ = nI 1)) (hw.trans (congrArg nI (show al = (if ¬ L.2 k = B.2 k ∧ k < al then k else al) from ?_))) (by omega) (by omega) hs.1 hs.2
          rw [if_neg (by omega)]
        · iterate 3 refine Wp.go rfl ?_
          refine Wp.geN (a := k) (b := al) hz hw (by first | omega | (have := (hL.2.2 k (by omega)).2; have := (hB.2.2 k (by omega)).2; omega)) (by first | omega | (have := (hL.2.2 k (by omega)).2; have := (hB.2.2 k (by omega)).2; omega)) (fun (h4 : ¬ k < al) => ?_) (fun (h4 : k < al) => ?_)
          · iterate 4 refine Wp.go rfl ?_
            refine Wp.lo (lo := [(0, .inr (some 167)), (1, .inl _), (2, .inl _), (3, .inl _), (4, .inl _), (5, .inl _), (6, .inl _), (7, .inl _)]) ⟨rfl, rfl, rfl, rfl, rfl, rfl, rfl, rfl, trivial⟩ ?_
            have hs := hA.s (by omega) (by omega) hlt
            refine ih (k + 1) _ _ _ (nE_add hz (rfl : _ = nI 1)) (hw.trans (congrArg nI (show al = (if ¬ L.2 k = B.2 k ∧ k < al then k else al) from ?_))) (by omega) (by omega) hs.1 hs.2
            rw [if_neg (by omega)]
          · iterate 5 refine Wp.go rfl ?_
            refine Wp.lo (lo := [(0, .inr (some 167)), (1, .inl _), (2, .inl _), (3, .inl _), (4, .inl _), (5, .inl _), (6, .inl _), (7, .inl _)]) ⟨rfl, rfl, rfl, rfl, rfl, rfl, rfl, rfl, trivial⟩ ?_
            have hs := hA.s (by omega) (by omega) hlt
            refine ih (k + 1) _ _ _ (nE_add hz (rfl : _ = nI 1)) (hz.trans (congrArg nI (show k = (if ¬ L.2 k = B.2 k ∧ k < al then k else al) from ?_))) (by omega) (by omega) hs.1 hs.2
            rw [if_pos (by omega)]
theorem in3 {v : Int32} {a b : Nat} (ha : a ≤ 8) (hb : b ≤ 8) (hv : v = nI a - nI b) : decide (¬ v < -3 ∧ ¬ nI 3 < v) = decide ((a - b) + (b - a) ≤ 3) := by
  rw [hv]
  have : ∀ a, a ≤ 8 → ∀ b, b ≤ 8 → decide (¬ nI a - nI b < -3 ∧ ¬ nI 3 < nI a - nI b) = decide ((a - b) + (b - a) ≤ 3) := by decide +kernel
  exact this a ha b hb
theorem gt0 {a b : Nat} (ha : a ≤ 8) (hb : b ≤ 8) : (nI 0 < nI a - nI b) ↔ b < a := by
  have : ∀ a, a ≤ 8 → ∀ b, b ≤ 8 → ((nI 0 < nI a - nI b) ↔ b < a) := by decide +kernel
  exact this a ha b hb
theorem en_0 {E : eS} {f : Nat} (h : E.1 ≤ f) : enL E f = [] := by unfold enL; rw [show E.1 - f = 0 by omega]; rfl
theorem tq_6 {c : cS} (h6 : c.1 ≤ 6) : (tqA c e0A).1 ≤ c.1 := by
  have : ∀ (n i : Nat) (E : eS), (foR (etA c) n i E).1 ≤ E.1 + n := by
    intro n
    induction n with
    | zero => intro i E; exact Nat.le_refl _
    | succ n ih => 
      intro i E
      have h1 := ih (i + 1) (etA c E i)
      have h2 : (etA c E i).1 ≤ E.1 + 1 := et_le
      show (foR (etA c) n (i + 1) (etA c E i)).1 ≤ _
      omega
  have h := this (8 + c.1 - 8) 8 (0, e0A.2)
  unfold tqA teA
  have e : (0, e0A.2).1 = 0 := rfl
  omega
set_option maxRecDepth 100000 in
theorem lX12_wrT {L B : eS} {W : wS} {c : cS} {i δ al : Nat} {σ : mc_G} (hL : mEn L σ) (hB : mBe B σ) (hW : mBy W σ) (h9 : W.1 + 32 ≤ 960) (hc6 : c.1 ≤ 6) (hi : i < 30) (hR : ∀ j, j < 8 + c.1 → σ 183 (14 * i + j) = nI (c.2 j) ∧ c.2 j < 300) (hA : alk L B (min L.1 B.1) al) {x d g f q v z : Int32} (hd : d = nI δ) (hg : g = nI c.1) (hf : f = nI (14 * i)) (hq : q = nI (tqA c e0A).1) (hw : v = nI al) : Wp miX12_write 115 [(0, .inr (some 167)), (1, .inl (x)), (2, .inl d), (3, .inl g), (4, .inl f), (5, .inl q), (6, .inl v), (7, .inl (z))] [] σ (fun rv σ' => rv = none ∧ mBy (waL W (w1A B L (tqA c e0A) δ)) σ' ∧ mBe L σ' ∧ mo [184, 185, 186] [24, 27, 29] σ σ') := by
  have hl8 := hL.2.1
  have hb8 := hB.2.1
  have ha8 := hA.1
  have hq6 := tq_6 hc6
  iterate 4 refine Wp.go rfl ?_
  refine Wp.eqN (a := al) (b := L.1) hw (hL.o (mo.rf (cs := [184]) (fs := [24]))).1 (by omega) (by omega) (fun (h1 : al = L.1) => ?_) (fun (h1 : ¬ al = L.1) => ?_)
  · iterate 11 refine Wp.go rfl ?_
    refine Wp.eqN (a := 1) (b := 0) (rfl : _ = nI 1) (rfl : _ = nI 0) (by decide) (by decide) (fun q => absurd q (by decide)) (fun _ => ?_)
    iterate 2 refine Wp.go rfl ?_
    refine Wp.neI (iE_sub (hL.o (mo.rf (cs := [184]) (fs := [24]))).1 (hB.o (mo.rf (cs := [184]) (fs := [24]))).1) (rfl : _ = nI 0) (fun (h3 : ¬ nI L.1 - nI B.1 = nI 0) => ?_) (fun (h3 : nI L.1 - nI B.1 = nI 0) => ?_)
    · iterate 2 refine Wp.go rfl ?_
      refine Wp.eqN (a := 1) (b := 0) (rfl : _ = nI 1) (rfl : _ = nI 0) (by decide) (by decide) (fun q => absurd q (by decide)) (fun _ => ?_)
      iterate 2 refine Wp.go rfl ?_
      refine Wp.neN (a := (tqA c e0A).1) (b := 0) hq (rfl : _ = nI 0) (by omega) (by omega) (fun (h5 : ¬ (tqA c e0A).1 = 0) => ?_) (fun (h5 : (tqA c e0A).1 = 0) => ?_)
      · iterate 2 refine Wp.go rfl ?_
        refine Wp.call rfl cqX12_put (sX12_put hW (by omega) (rfl : _ = nI 255)) (fun rv1 s1 hq1 => ?_)
        obtain ⟨rfl, hW1, ho1⟩ := hq1
        have hn1 := wa_1 (W := W) (q := 255) (by omega)
        iterate 2 refine Wp.go rfl ?_
        refine Wp.call rfl cqX12_put (sX12_put hW1 (by rw [hn1]; omega) hd) (fun rv2 s2 hq2 => ?_)
        obtain ⟨rfl, hW2, ho2⟩ := hq2
        have hn2 := wa_1 (q := δ) (show (wa1 W 255).1 < 960 by rw [hn1]; omega)
        rw [hn1] at hn2
        iterate 3 refine Wp.go rfl ?_
        refine Wp.call rfl cqX12_put (sX12_put hW2 (by rw [hn2]; omega) (hL.o (((mo.rf (cs := [184]) (fs := [24])).tr ho1).tr ho2)).1) (fun rv3 s3 hq3 => ?_)
        obtain ⟨rfl, hW3, ho3⟩ := hq3
        have hn3 := wa_1 (q := L.1) (show (wa1 (wa1 W 255) δ).1 < 960 by rw [hn2]; omega)
        rw [hn2] at hn3
        iterate 2 refine Wp.go rfl ?_
        refine Wp.call rfl cqX12_putEntries (sX12_putEntries (hL.o ((((mo.rf (cs := [184]) (fs := [24])).tr ho1).tr ho2).tr ho3)) hW3 (rfl : _ = nI 0) (by omega) (by rw [hn3]; omega)) (fun rv4 s4 hq4 => ?_)
        obtain ⟨rfl, hW4, ho4⟩ := hq4
        have hl4 := en_l L 0
        have hn4 := waL_1 (enL L 0) (wa1 (wa1 (wa1 W 255) δ) L.1) (by rw [hn3]; omega)
        iterate 2 refine Wp.go rfl ?_
        refine Wp.call rfl cqX12_put (sX12_put hW4 (by rw [hn4, hn3]; omega) hq) (fun rv5 s5 hq5 => ?_)
        obtain ⟨rfl, hW5, ho5⟩ := hq5
        have hn5 := wa_1 (q := (tqA c e0A).1) (show (waL (wa1 (wa1 (wa1 W 255) δ) L.1) (enL L 0)).1 < 960 by rw [hn4, hn3]; omega)
        rw [hn4, hn3] at hn5
        iterate 3 refine Wp.go rfl ?_
        refine Wp.call rfl cqX12_putPile (sX12_putPile hc6 (by omega) hf hg (by rw [hn5]; omega) hW5 (fun j hj => by rw [((((((mo.rf (cs := [184]) (fs := [24])).tr ho1).tr ho2).tr ho3).tr ho4).tr ho5).1 183 (by decide) (by decide)]; exact hR j hj)) (fun rv6 s6 hq6 => ?_)
        obtain ⟨rfl, hW6, ho6⟩ := hq6
        refine Wp.go rfl ?_
        refine Wp.call rfl cqX12_keepEntries (sX12_keepEntries (hL.o (((((((mo.rf (cs := [184]) (fs := [24])).tr ho1).tr ho2).tr ho3).tr ho4).tr ho5).tr ho6))) (fun rv7 s7 hq7 => ?_)
        obtain ⟨rfl, hB7, ho7⟩ := hq7
        refine Wp.ret rfl ?_
        refine ⟨rfl, ?_, hB7, ((((((((mo.rf (cs := [184]) (fs := [24])).tr ho1).tr ho2).tr ho3).tr ho4).tr ho5).tr ho6).wi (by decide) (by decide)).tr (ho7.wi (by decide) (by decide))⟩
        have hba : baA L B = true := by have := hA.2; unfold baA; grind
        have hm : ¬ L.1 = B.1 := fun r => h3 ((sub0 hl8 hb8).mpr r)
        have hz := (mBy.o hW6 ho7)
        have e9 : w1A B L (tqA c e0A) δ = 255 :: δ :: L.1 :: (enL L 0 ++ (tqA c e0A).1 :: enL (tqA c e0A) 0) := by unfold w1A; rw [if_neg (by grind), if_neg (by grind), if_neg (by grind)]
        rw [e9]
        show mBy (waL (wa1 (wa1 (wa1 W 255) δ) L.1) (enL L 0 ++ (tqA c e0A).1 :: enL (tqA c e0A) 0)) _
        rw [waL_app]
        exact hz
      · iterate 3 refine Wp.go rfl ?_
        refine Wp.call rfl cqX12_isIn (sX12_isIn) (fun rv8 s8 hq8 => ?_)
        obtain ⟨rfl, hq8⟩ := hq8
        replace hq8 := hq8.symm
        subst hq8
        refine Wp.go rfl ?_
        refine Wp.beqD (p := (L.1 - B.1) + (B.1 - L.1) ≤ 3) (congrArg bI (in3 hl8 hb8 (iE_sub (hL.o (mo.rf (cs := [184]) (fs := [24]))).1 (hB.o (mo.rf (cs := [184]) (fs := [24]))).1))) (fun (h6 : ¬ ((L.1 - B.1) + (B.1 - L.1) ≤ 3)) => ?_) (fun (h6 : (L.1 - B.1) + (B.1 - L.1) ≤ 3) => ?_)
        · iterate 2 refine Wp.go rfl ?_
          refine Wp.call rfl cqX12_put (sX12_put hW (by omega) (rfl : _ = nI 255)) (fun rv9 s9 hq9 => ?_)
          obtain ⟨rfl, hW9, ho9⟩ := hq9
          have hn9 := wa_1 (W := W) (q := 255) (by omega)
          iterate 2 refine Wp.go rfl ?_
          refine Wp.call rfl cqX12_put (sX12_put hW9 (by rw [hn9]; omega) hd) (fun rv10 s10 hq10 => ?_)
          obtain ⟨rfl, hW10, ho10⟩ := hq10
          have hn10 := wa_1 (q := δ) (show (wa1 W 255).1 < 960 by rw [hn9]; omega)
          rw [hn9] at hn10
          iterate 3 refine Wp.go rfl ?_
          refine Wp.call rfl cqX12_put (sX12_put hW10 (by rw [hn10]; omega) (hL.o (((mo.rf (cs := [184]) (fs := [24])).tr ho9).tr ho10)).1) (fun rv11 s11 hq11 => ?_)
          obtain ⟨rfl, hW11, ho11⟩ := hq11
          have hn11 := wa_1 (q := L.1) (show (wa1 (wa1 W 255) δ).1 < 960 by rw [hn10]; omega)
          rw [hn10] at hn11
          iterate 2 refine Wp.go rfl ?_
          refine Wp.call rfl cqX12_putEntries (sX12_putEntries (hL.o ((((mo.rf (cs := [184]) (fs := [24])).tr ho9).tr ho10).tr ho11)) hW11 (rfl : _ = nI 0) (by omega) (by rw [hn11]; omega)) (fun rv12 s12 hq12 => ?_)
          obtain ⟨rfl, hW12, ho12⟩ := hq12
          have hl12 := en_l L 0
          have hn12 := waL_1 (enL L 0) (wa1 (wa1 (wa1 W 255) δ) L.1) (by rw [hn11]; omega)
          iterate 2 refine Wp.go rfl ?_
          refine Wp.call rfl cqX12_put (sX12_put hW12 (by rw [hn12, hn11]; omega) hq) (fun rv13 s13 hq13 => ?_)
          obtain ⟨rfl, hW13, ho13⟩ := hq13
          have hn13 := wa_1 (q := (tqA c e0A).1) (show (waL (wa1 (wa1 (wa1 W 255) δ) L.1) (enL L 0)).1 < 960 by rw [hn12, hn11]; omega)
          rw [hn12, hn11] at hn13
          iterate 3 refine Wp.go rfl ?_
          refine Wp.call rfl cqX12_putPile (sX12_putPile hc6 (by omega) hf hg (by rw [hn13]; omega) hW13 (fun j hj => by rw [((((((mo.rf (cs := [184]) (fs := [24])).tr ho9).tr ho10).tr ho11).tr ho12).tr ho13).1 183 (by decide) (by decide)]; exact hR j hj)) (fun rv14 s14 hq14 => ?_)
          obtain ⟨rfl, hW14, ho14⟩ := hq14
          refine Wp.go rfl ?_
          refine Wp.call rfl cqX12_keepEntries (sX12_keepEntries (hL.o (((((((mo.rf (cs := [184]) (fs := [24])).tr ho9).tr ho10).tr ho11).tr ho12).tr ho13).tr ho14))) (fun rv15 s15 hq15 => ?_)
          obtain ⟨rfl, hB15, ho15⟩ := hq15
          refine Wp.ret rfl ?_
          refine ⟨rfl, ?_, hB15, ((((((((mo.rf (cs := [184]) (fs := [24])).tr ho9).tr ho10).tr ho11).tr ho12).tr ho13).tr ho14).wi (by decide) (by decide)).tr (ho15.wi (by decide) (by decide))⟩
          have hba : baA L B = true := by have := hA.2; unfold baA; grind
          have hm : ¬ L.1 = B.1 := fun r => h3 ((sub0 hl8 hb8).mpr r)
          have hz := (mBy.o hW14 ho15)
          have e9 : w1A B L (tqA c e0A) δ = 255 :: δ :: L.1 :: (enL L 0 ++ (tqA c e0A).1 :: enL (tqA c e0A) 0) := by unfold w1A; rw [if_neg (by grind), if_neg (by grind), if_neg (by grind)]
          rw [e9]
          show mBy (waL (wa1 (wa1 (wa1 W 255) δ) L.1) (enL L 0 ++ (tqA c e0A).1 :: enL (tqA c e0A) 0)) _
          rw [waL_app]
          exact hz
        · iterate 4 refine Wp.go rfl ?_
          refine Wp.call rfl cqX12_put (sX12_put hW (by omega) (add251 (rfl : _ = nI 251) hl8 hb8 (iE_sub (hL.o (mo.rf (cs := [184]) (fs := [24]))).1 (hB.o (mo.rf (cs := [184]) (fs := [24]))).1))) (fun rv16 s16 hq16 => ?_)
          obtain ⟨rfl, hW16, ho16⟩ := hq16
          have hn16 := wa_1 (W := W) (q := 251 + L.1 - B.1) (by omega)
          iterate 2 refine Wp.go rfl ?_
          refine Wp.call rfl cqX12_put (sX12_put hW16 (by rw [hn16]; omega) hd) (fun rv17 s17 hq17 => ?_)
          obtain ⟨rfl, hW17, ho17⟩ := hq17
          have hn17 := wa_1 (q := δ) (show (wa1 W (251 + L.1 - B.1)).1 < 960 by rw [hn16]; omega)
          rw [hn16] at hn17
          iterate 3 refine Wp.go rfl ?_
          refine Wp.leI (iE_sub (hL.o (mo.rf (cs := [184]) (fs := [24]))).1 (hB.o (mo.rf (cs := [184]) (fs := [24]))).1) (rfl : _ = nI 0) (fun (h7 : ¬ nI 0 < nI L.1 - nI B.1) => ?_) (fun (h7 : nI 0 < nI L.1 - nI B.1) => ?_)
          · iterate 2 refine Wp.go rfl ?_
            refine Wp.call rfl cqX12_putEntries (sX12_putEntries (hL.o (((mo.rf (cs := [184]) (fs := [24])).tr ho16).tr ho17)) hW17 (hL.o (((mo.rf (cs := [184]) (fs := [24])).tr ho16).tr ho17)).1 (by omega) (by rw [hn17]; omega)) (fun rv18 s18 hq18 => ?_)
            obtain ⟨rfl, hW18, ho18⟩ := hq18
            have hl18 := en_l L L.1
            have hn18 := waL_1 (enL L L.1) (wa1 (wa1 W (251 + L.1 - B.1)) δ) (by rw [hn17]; omega)
            iterate 2 refine Wp.go rfl ?_
            refine Wp.call rfl cqX12_keepEntries (sX12_keepEntries (hL.o ((((mo.rf (cs := [184]) (fs := [24])).tr ho16).tr ho17).tr ho18))) (fun rv19 s19 hq19 => ?_)
            obtain ⟨rfl, hB19, ho19⟩ := hq19
            refine Wp.ret rfl ?_
            refine ⟨rfl, ?_, hB19, (((((mo.rf (cs := [184]) (fs := [24])).tr ho16).tr ho17).tr ho18).wi (by decide) (by decide)).tr (ho19.wi (by decide) (by decide))⟩
            have hba : baA L B = true := by have := hA.2; unfold baA; grind
            have hm : ¬ L.1 = B.1 := fun r => h3 ((sub0 hl8 hb8).mpr r)
            have hgt : ¬ B.1 < L.1 := fun r => h7 ((gt0 hl8 hb8).mpr r)
            have hz := (mBy.o hW18 ho19)
            have e9 : w1A B L (tqA c e0A) δ = (251 + L.1 - B.1) :: δ :: enL L B.1 := by unfold w1A; rw [if_neg (by grind), if_neg (by grind), if_pos (by grind)]
            rw [e9]
            rw [en_0 (Nat.le_refl _)] at hz
            rw [en_0 (show L.1 ≤ B.1 by omega)]
            exact hz
          · iterate 3 refine Wp.go rfl ?_
            refine Wp.call rfl cqX12_putEntries (sX12_putEntries (hL.o (((mo.rf (cs := [184]) (fs := [24])).tr ho16).tr ho17)) hW17 (hB.o (((mo.rf (cs := [184]) (fs := [24])).tr ho16).tr ho17)).1 (by omega) (by rw [hn17]; omega)) (fun rv20 s20 hq20 => ?_)
            obtain ⟨rfl, hW20, ho20⟩ := hq20
            have hl20 := en_l L B.1
            have hn20 := waL_1 (enL L B.1) (wa1 (wa1 W (251 + L.1 - B.1)) δ) (by rw [hn17]; omega)
            iterate 2 refine Wp.go rfl ?_
            refine Wp.call rfl cqX12_keepEntries (sX12_keepEntries (hL.o ((((mo.rf (cs := [184]) (fs := [24])).tr ho16).tr ho17).tr ho20))) (fun rv21 s21 hq21 => ?_)
            obtain ⟨rfl, hB21, ho21⟩ := hq21
            refine Wp.ret rfl ?_
            refine ⟨rfl, ?_, hB21, (((((mo.rf (cs := [184]) (fs := [24])).tr ho16).tr ho17).tr ho20).wi (by decide) (by decide)).tr (ho21.wi (by decide) (by decide))⟩
            have hba : baA L B = true := by have := hA.2; unfold baA; grind
            have hm : ¬ L.1 = B.1 := fun r => h3 ((sub0 hl8 hb8).mpr r)
            have hgt : B.1 < L.1 := (gt0 hl8 hb8).mp h7
            have hz := (mBy.o hW20 ho21)
            have e9 : w1A B L (tqA c e0A) δ = (251 + L.1 - B.1) :: δ :: enL L B.1 := by unfold w1A; rw [if_neg (by grind), if_neg (by grind), if_pos (by grind)]
            rw [e9]
            exact hz
    · iterate 3 refine Wp.go rfl ?_
      refine Wp.geN (a := (tqA c e0A).1) (b := 2) hq (rfl : _ = nI 2) (by omega) (by omega) (fun (h8 : ¬ (tqA c e0A).1 < 2) => ?_) (fun (h8 : (tqA c e0A).1 < 2) => ?_)
      · iterate 2 refine Wp.go rfl ?_
        refine Wp.eqN (a := 1) (b := 0) (rfl : _ = nI 1) (rfl : _ = nI 0) (by decide) (by decide) (fun q => absurd q (by decide)) (fun _ => ?_)
        iterate 2 refine Wp.go rfl ?_
        refine Wp.neN (a := (tqA c e0A).1) (b := 0) hq (rfl : _ = nI 0) (by omega) (by omega) (fun (h10 : ¬ (tqA c e0A).1 = 0) => ?_) (fun (h10 : (tqA c e0A).1 = 0) => ?_)
        · iterate 2 refine Wp.go rfl ?_
          refine Wp.call rfl cqX12_put (sX12_put hW (by omega) (rfl : _ = nI 255)) (fun rv22 s22 hq22 => ?_)
          obtain ⟨rfl, hW22, ho22⟩ := hq22
          have hn22 := wa_1 (W := W) (q := 255) (by omega)
          iterate 2 refine Wp.go rfl ?_
          refine Wp.call rfl cqX12_put (sX12_put hW22 (by rw [hn22]; omega) hd) (fun rv23 s23 hq23 => ?_)
          obtain ⟨rfl, hW23, ho23⟩ := hq23
          have hn23 := wa_1 (q := δ) (show (wa1 W 255).1 < 960 by rw [hn22]; omega)
          rw [hn22] at hn23
          iterate 3 refine Wp.go rfl ?_
          refine Wp.call rfl cqX12_put (sX12_put hW23 (by rw [hn23]; omega) (hL.o (((mo.rf (cs := [184]) (fs := [24])).tr ho22).tr ho23)).1) (fun rv24 s24 hq24 => ?_)
          obtain ⟨rfl, hW24, ho24⟩ := hq24
          have hn24 := wa_1 (q := L.1) (show (wa1 (wa1 W 255) δ).1 < 960 by rw [hn23]; omega)
          rw [hn23] at hn24
          iterate 2 refine Wp.go rfl ?_
          refine Wp.call rfl cqX12_putEntries (sX12_putEntries (hL.o ((((mo.rf (cs := [184]) (fs := [24])).tr ho22).tr ho23).tr ho24)) hW24 (rfl : _ = nI 0) (by omega) (by rw [hn24]; omega)) (fun rv25 s25 hq25 => ?_)
          obtain ⟨rfl, hW25, ho25⟩ := hq25
          have hl25 := en_l L 0
          have hn25 := waL_1 (enL L 0) (wa1 (wa1 (wa1 W 255) δ) L.1) (by rw [hn24]; omega)
          iterate 2 refine Wp.go rfl ?_
          refine Wp.call rfl cqX12_put (sX12_put hW25 (by rw [hn25, hn24]; omega) hq) (fun rv26 s26 hq26 => ?_)
          obtain ⟨rfl, hW26, ho26⟩ := hq26
          have hn26 := wa_1 (q := (tqA c e0A).1) (show (waL (wa1 (wa1 (wa1 W 255) δ) L.1) (enL L 0)).1 < 960 by rw [hn25, hn24]; omega)
          rw [hn25, hn24] at hn26
          iterate 3 refine Wp.go rfl ?_
          refine Wp.call rfl cqX12_putPile (sX12_putPile hc6 (by omega) hf hg (by rw [hn26]; omega) hW26 (fun j hj => by rw [((((((mo.rf (cs := [184]) (fs := [24])).tr ho22).tr ho23).tr ho24).tr ho25).tr ho26).1 183 (by decide) (by decide)]; exact hR j hj)) (fun rv27 s27 hq27 => ?_)
          obtain ⟨rfl, hW27, ho27⟩ := hq27
          refine Wp.go rfl ?_
          refine Wp.call rfl cqX12_keepEntries (sX12_keepEntries (hL.o (((((((mo.rf (cs := [184]) (fs := [24])).tr ho22).tr ho23).tr ho24).tr ho25).tr ho26).tr ho27))) (fun rv28 s28 hq28 => ?_)
          obtain ⟨rfl, hB28, ho28⟩ := hq28
          refine Wp.ret rfl ?_
          refine ⟨rfl, ?_, hB28, ((((((((mo.rf (cs := [184]) (fs := [24])).tr ho22).tr ho23).tr ho24).tr ho25).tr ho26).tr ho27).wi (by decide) (by decide)).tr (ho28.wi (by decide) (by decide))⟩
          have hba : baA L B = true := by have := hA.2; unfold baA; grind
          have hm : L.1 = B.1 := (sub0 hl8 hb8).mp h3
          have hz := (mBy.o hW27 ho28)
          have e9 : w1A B L (tqA c e0A) δ = 255 :: δ :: L.1 :: (enL L 0 ++ (tqA c e0A).1 :: enL (tqA c e0A) 0) := by unfold w1A; rw [if_neg (by grind), if_neg (by grind), if_neg (by grind)]
          rw [e9]
          show mBy (waL (wa1 (wa1 (wa1 W 255) δ) L.1) (enL L 0 ++ (tqA c e0A).1 :: enL (tqA c e0A) 0)) _
          rw [waL_app]
          exact hz
        · iterate 3 refine Wp.go rfl ?_
          refine Wp.call rfl cqX12_isIn (sX12_isIn) (fun rv29 s29 hq29 => ?_)
          obtain ⟨rfl, hq29⟩ := hq29
          replace hq29 := hq29.symm
          subst hq29
          refine Wp.go rfl ?_
          refine Wp.beqD (p := (L.1 - B.1) + (B.1 - L.1) ≤ 3) (congrArg bI (in3 hl8 hb8 (iE_sub (hL.o (mo.rf (cs := [184]) (fs := [24]))).1 (hB.o (mo.rf (cs := [184]) (fs := [24]))).1))) (fun (h11 : ¬ ((L.1 - B.1) + (B.1 - L.1) ≤ 3)) => ?_) (fun (h11 : (L.1 - B.1) + (B.1 - L.1) ≤ 3) => ?_)
          · iterate 2 refine Wp.go rfl ?_
            refine Wp.call rfl cqX12_put (sX12_put hW (by omega) (rfl : _ = nI 255)) (fun rv30 s30 hq30 => ?_)
            obtain ⟨rfl, hW30, ho30⟩ := hq30
            have hn30 := wa_1 (W := W) (q := 255) (by omega)
            iterate 2 refine Wp.go rfl ?_
            refine Wp.call rfl cqX12_put (sX12_put hW30 (by rw [hn30]; omega) hd) (fun rv31 s31 hq31 => ?_)
            obtain ⟨rfl, hW31, ho31⟩ := hq31
            have hn31 := wa_1 (q := δ) (show (wa1 W 255).1 < 960 by rw [hn30]; omega)
            rw [hn30] at hn31
            iterate 3 refine Wp.go rfl ?_
            refine Wp.call rfl cqX12_put (sX12_put hW31 (by rw [hn31]; omega) (hL.o (((mo.rf (cs := [184]) (fs := [24])).tr ho30).tr ho31)).1) (fun rv32 s32 hq32 => ?_)
            obtain ⟨rfl, hW32, ho32⟩ := hq32
            have hn32 := wa_1 (q := L.1) (show (wa1 (wa1 W 255) δ).1 < 960 by rw [hn31]; omega)
            rw [hn31] at hn32
            iterate 2 refine Wp.go rfl ?_
            refine Wp.call rfl cqX12_putEntries (sX12_putEntries (hL.o ((((mo.rf (cs := [184]) (fs := [24])).tr ho30).tr ho31).tr ho32)) hW32 (rfl : _ = nI 0) (by omega) (by rw [hn32]; omega)) (fun rv33 s33 hq33 => ?_)
            obtain ⟨rfl, hW33, ho33⟩ := hq33
            have hl33 := en_l L 0
            have hn33 := waL_1 (enL L 0) (wa1 (wa1 (wa1 W 255) δ) L.1) (by rw [hn32]; omega)
            iterate 2 refine Wp.go rfl ?_
            refine Wp.call rfl cqX12_put (sX12_put hW33 (by rw [hn33, hn32]; omega) hq) (fun rv34 s34 hq34 => ?_)
            obtain ⟨rfl, hW34, ho34⟩ := hq34
            have hn34 := wa_1 (q := (tqA c e0A).1) (show (waL (wa1 (wa1 (wa1 W 255) δ) L.1) (enL L 0)).1 < 960 by rw [hn33, hn32]; omega)
            rw [hn33, hn32] at hn34
            iterate 3 refine Wp.go rfl ?_
            refine Wp.call rfl cqX12_putPile (sX12_putPile hc6 (by omega) hf hg (by rw [hn34]; omega) hW34 (fun j hj => by rw [((((((mo.rf (cs := [184]) (fs := [24])).tr ho30).tr ho31).tr ho32).tr ho33).tr ho34).1 183 (by decide) (by decide)]; exact hR j hj)) (fun rv35 s35 hq35 => ?_)
            obtain ⟨rfl, hW35, ho35⟩ := hq35
            refine Wp.go rfl ?_
            refine Wp.call rfl cqX12_keepEntries (sX12_keepEntries (hL.o (((((((mo.rf (cs := [184]) (fs := [24])).tr ho30).tr ho31).tr ho32).tr ho33).tr ho34).tr ho35))) (fun rv36 s36 hq36 => ?_)
            obtain ⟨rfl, hB36, ho36⟩ := hq36
            refine Wp.ret rfl ?_
            refine ⟨rfl, ?_, hB36, ((((((((mo.rf (cs := [184]) (fs := [24])).tr ho30).tr ho31).tr ho32).tr ho33).tr ho34).tr ho35).wi (by decide) (by decide)).tr (ho36.wi (by decide) (by decide))⟩
            have hba : baA L B = true := by have := hA.2; unfold baA; grind
            have hm : L.1 = B.1 := (sub0 hl8 hb8).mp h3
            have hz := (mBy.o hW35 ho36)
            have e9 : w1A B L (tqA c e0A) δ = 255 :: δ :: L.1 :: (enL L 0 ++ (tqA c e0A).1 :: enL (tqA c e0A) 0) := by unfold w1A; rw [if_neg (by grind), if_neg (by grind), if_neg (by grind)]
            rw [e9]
            show mBy (waL (wa1 (wa1 (wa1 W 255) δ) L.1) (enL L 0 ++ (tqA c e0A).1 :: enL (tqA c e0A) 0)) _
            rw [waL_app]
            exact hz
          · iterate 4 refine Wp.go rfl ?_
            refine Wp.call rfl cqX12_put (sX12_put hW (by omega) (add251 (rfl : _ = nI 251) hl8 hb8 (iE_sub (hL.o (mo.rf (cs := [184]) (fs := [24]))).1 (hB.o (mo.rf (cs := [184]) (fs := [24]))).1))) (fun rv37 s37 hq37 => ?_)
            obtain ⟨rfl, hW37, ho37⟩ := hq37
            have hn37 := wa_1 (W := W) (q := 251 + L.1 - B.1) (by omega)
            iterate 2 refine Wp.go rfl ?_
            refine Wp.call rfl cqX12_put (sX12_put hW37 (by rw [hn37]; omega) hd) (fun rv38 s38 hq38 => ?_)
            obtain ⟨rfl, hW38, ho38⟩ := hq38
            have hn38 := wa_1 (q := δ) (show (wa1 W (251 + L.1 - B.1)).1 < 960 by rw [hn37]; omega)
            rw [hn37] at hn38
            iterate 3 refine Wp.go rfl ?_
            refine Wp.leI (iE_sub (hL.o (mo.rf (cs := [184]) (fs := [24]))).1 (hB.o (mo.rf (cs := [184]) (fs := [24]))).1) (rfl : _ = nI 0) (fun (h12 : ¬ nI 0 < nI L.1 - nI B.1) => ?_) (fun (h12 : nI 0 < nI L.1 - nI B.1) => ?_)
            · iterate 2 refine Wp.go rfl ?_
              refine Wp.call rfl cqX12_putEntries (sX12_putEntries (hL.o (((mo.rf (cs := [184]) (fs := [24])).tr ho37).tr ho38)) hW38 (hL.o (((mo.rf (cs := [184]) (fs := [24])).tr ho37).tr ho38)).1 (by omega) (by rw [hn38]; omega)) (fun rv39 s39 hq39 => ?_)
              obtain ⟨rfl, hW39, ho39⟩ := hq39
              have hl39 := en_l L L.1
              have hn39 := waL_1 (enL L L.1) (wa1 (wa1 W (251 + L.1 - B.1)) δ) (by rw [hn38]; omega)
              iterate 2 refine Wp.go rfl ?_
              refine Wp.call rfl cqX12_keepEntries (sX12_keepEntries (hL.o ((((mo.rf (cs := [184]) (fs := [24])).tr ho37).tr ho38).tr ho39))) (fun rv40 s40 hq40 => ?_)
              obtain ⟨rfl, hB40, ho40⟩ := hq40
              refine Wp.ret rfl ?_
              refine ⟨rfl, ?_, hB40, (((((mo.rf (cs := [184]) (fs := [24])).tr ho37).tr ho38).tr ho39).wi (by decide) (by decide)).tr (ho40.wi (by decide) (by decide))⟩
              have hba : baA L B = true := by have := hA.2; unfold baA; grind
              have hm : L.1 = B.1 := (sub0 hl8 hb8).mp h3
              have hgt : ¬ B.1 < L.1 := fun r => h12 ((gt0 hl8 hb8).mpr r)
              have hz := (mBy.o hW39 ho40)
              have e9 : w1A B L (tqA c e0A) δ = (251 + L.1 - B.1) :: δ :: enL L B.1 := by unfold w1A; rw [if_neg (by grind), if_neg (by grind), if_pos (by grind)]
              rw [e9]
              rw [en_0 (Nat.le_refl _)] at hz
              rw [en_0 (show L.1 ≤ B.1 by omega)]
              exact hz
            · iterate 3 refine Wp.go rfl ?_
              refine Wp.call rfl cqX12_putEntries (sX12_putEntries (hL.o (((mo.rf (cs := [184]) (fs := [24])).tr ho37).tr ho38)) hW38 (hB.o (((mo.rf (cs := [184]) (fs := [24])).tr ho37).tr ho38)).1 (by omega) (by rw [hn38]; omega)) (fun rv41 s41 hq41 => ?_)
              obtain ⟨rfl, hW41, ho41⟩ := hq41
              have hl41 := en_l L B.1
              have hn41 := waL_1 (enL L B.1) (wa1 (wa1 W (251 + L.1 - B.1)) δ) (by rw [hn38]; omega)
              iterate 2 refine Wp.go rfl ?_
              refine Wp.call rfl cqX12_keepEntries (sX12_keepEntries (hL.o ((((mo.rf (cs := [184]) (fs := [24])).tr ho37).tr ho38).tr ho41))) (fun rv42 s42 hq42 => ?_)
              obtain ⟨rfl, hB42, ho42⟩ := hq42
              refine Wp.ret rfl ?_
              refine ⟨rfl, ?_, hB42, (((((mo.rf (cs := [184]) (fs := [24])).tr ho37).tr ho38).tr ho41).wi (by decide) (by decide)).tr (ho42.wi (by decide) (by decide))⟩
              have hba : baA L B = true := by have := hA.2; unfold baA; grind
              have hm : L.1 = B.1 := (sub0 hl8 hb8).mp h3
              have hgt : B.1 < L.1 := (gt0 hl8 hb8).mp h12
              have hz := (mBy.o hW41 ho42)
              have e9 : w1A B L (tqA c e0A) δ = (251 + L.1 - B.1) :: δ :: enL L B.1 := by unfold w1A; rw [if_neg (by grind), if_neg (by grind), if_pos (by grind)]
              rw [e9]
              exact hz
      · iterate 3 refine Wp.go rfl ?_
        refine Wp.neN (a := (tqA c e0A).1) (b := 0) hq (rfl : _ = nI 0) (by omega) (by omega) (fun (h13 : ¬ (tqA c e0A).1 = 0) => ?_) (fun (h13 : (tqA c e0A).1 = 0) => ?_)
        · iterate 3 refine Wp.go rfl ?_
          refine Wp.call rfl cqX12_put (sX12_put hW (by omega) (nE_add (rfl : _ = nI 64) hd)) (fun rv43 s43 hq43 => ?_)
          obtain ⟨rfl, hW43, ho43⟩ := hq43
          have hn43 := wa_1 (W := W) (q := 64 + δ) (by omega)
          iterate 3 refine Wp.go rfl ?_
          refine Wp.call rfl cqX12_putPile (sX12_putPile hc6 (by omega) hf hg (by rw [hn43]; omega) hW43 (fun j hj => by rw [((mo.rf (cs := [184]) (fs := [24])).tr ho43).1 183 (by decide) (by decide)]; exact hR j hj)) (fun rv44 s44 hq44 => ?_)
          obtain ⟨rfl, hW44, ho44⟩ := hq44
          iterate 2 refine Wp.go rfl ?_
          refine Wp.call rfl cqX12_keepEntries (sX12_keepEntries (hL.o (((mo.rf (cs := [184]) (fs := [24])).tr ho43).tr ho44))) (fun rv45 s45 hq45 => ?_)
          obtain ⟨rfl, hB45, ho45⟩ := hq45
          refine Wp.ret rfl ?_
          refine ⟨rfl, ?_, hB45, ((((mo.rf (cs := [184]) (fs := [24])).tr ho43).tr ho44).wi (by decide) (by decide)).tr (ho45.wi (by decide) (by decide))⟩
          have hba : baA L B = true := by have := hA.2; unfold baA; grind
          have hm : L.1 = B.1 := (sub0 hl8 hb8).mp h3
          have hz := (mBy.o hW44 ho45)
          have e9 : w1A B L (tqA c e0A) δ = (64 + δ) :: enL (tqA c e0A) 0 := by unfold w1A; rw [if_neg (by grind), if_pos (by grind)]
          rw [e9]
          exact hz
        · iterate 2 refine Wp.go rfl ?_
          refine Wp.call rfl cqX12_put (sX12_put hW (by omega) hd) (fun rv46 s46 hq46 => ?_)
          obtain ⟨rfl, hW46, ho46⟩ := hq46
          have hn46 := wa_1 (W := W) (q := δ) (by omega)
          iterate 3 refine Wp.go rfl ?_
          refine Wp.call rfl cqX12_putPile (sX12_putPile hc6 (by omega) hf hg (by rw [hn46]; omega) hW46 (fun j hj => by rw [((mo.rf (cs := [184]) (fs := [24])).tr ho46).1 183 (by decide) (by decide)]; exact hR j hj)) (fun rv47 s47 hq47 => ?_)
          obtain ⟨rfl, hW47, ho47⟩ := hq47
          iterate 2 refine Wp.go rfl ?_
          refine Wp.call rfl cqX12_keepEntries (sX12_keepEntries (hL.o (((mo.rf (cs := [184]) (fs := [24])).tr ho46).tr ho47))) (fun rv48 s48 hq48 => ?_)
          obtain ⟨rfl, hB48, ho48⟩ := hq48
          refine Wp.ret rfl ?_
          refine ⟨rfl, ?_, hB48, ((((mo.rf (cs := [184]) (fs := [24])).tr ho46).tr ho47).wi (by decide) (by decide)).tr (ho48.wi (by decide) (by decide))⟩
          have hba : baA L B = true := by have := hA.2; unfold baA; grind
          have hm : L.1 = B.1 := (sub0 hl8 hb8).mp h3
          have hz := (mBy.o hW47 ho48)
          have e9 : w1A B L (tqA c e0A) δ = [δ] := by unfold w1A; rw [if_pos (by grind)]
          rw [e9]
          rw [en_0 (show (tqA c e0A).1 ≤ 0 by omega)] at hz
          exact hz
  · iterate 4 refine Wp.go rfl ?_
    refine Wp.neN (a := al) (b := B.1) hw (hB.o (mo.rf (cs := [184]) (fs := [24]))).1 (by omega) (by omega) (fun (h14 : ¬ al = B.1) => ?_) (fun (h14 : al = B.1) => ?_)
    · iterate 10 refine Wp.go rfl ?_
      refine Wp.eqN (a := 0) (b := 0) (rfl : _ = nI 0) (rfl : _ = nI 0) (by decide) (by decide) (fun _ => ?_) (fun q => absurd q (by decide))
      iterate 2 refine Wp.go rfl ?_
      refine Wp.eqN (a := 0) (b := 0) (rfl : _ = nI 0) (rfl : _ = nI 0) (by decide) (by decide) (fun _ => ?_) (fun q => absurd q (by decide))
      iterate 2 refine Wp.go rfl ?_
      refine Wp.call rfl cqX12_put (sX12_put hW (by omega) (rfl : _ = nI 255)) (fun rv49 s49 hq49 => ?_)
      obtain ⟨rfl, hW49, ho49⟩ := hq49
      have hn49 := wa_1 (W := W) (q := 255) (by omega)
      iterate 2 refine Wp.go rfl ?_
      refine Wp.call rfl cqX12_put (sX12_put hW49 (by rw [hn49]; omega) hd) (fun rv50 s50 hq50 => ?_)
      obtain ⟨rfl, hW50, ho50⟩ := hq50
      have hn50 := wa_1 (q := δ) (show (wa1 W 255).1 < 960 by rw [hn49]; omega)
      rw [hn49] at hn50
      iterate 3 refine Wp.go rfl ?_
      refine Wp.call rfl cqX12_put (sX12_put hW50 (by rw [hn50]; omega) (hL.o (((mo.rf (cs := [184]) (fs := [24])).tr ho49).tr ho50)).1) (fun rv51 s51 hq51 => ?_)
      obtain ⟨rfl, hW51, ho51⟩ := hq51
      have hn51 := wa_1 (q := L.1) (show (wa1 (wa1 W 255) δ).1 < 960 by rw [hn50]; omega)
      rw [hn50] at hn51
      iterate 2 refine Wp.go rfl ?_
      refine Wp.call rfl cqX12_putEntries (sX12_putEntries (hL.o ((((mo.rf (cs := [184]) (fs := [24])).tr ho49).tr ho50).tr ho51)) hW51 (rfl : _ = nI 0) (by omega) (by rw [hn51]; omega)) (fun rv52 s52 hq52 => ?_)
      obtain ⟨rfl, hW52, ho52⟩ := hq52
      have hl52 := en_l L 0
      have hn52 := waL_1 (enL L 0) (wa1 (wa1 (wa1 W 255) δ) L.1) (by rw [hn51]; omega)
      iterate 2 refine Wp.go rfl ?_
      refine Wp.call rfl cqX12_put (sX12_put hW52 (by rw [hn52, hn51]; omega) hq) (fun rv53 s53 hq53 => ?_)
      obtain ⟨rfl, hW53, ho53⟩ := hq53
      have hn53 := wa_1 (q := (tqA c e0A).1) (show (waL (wa1 (wa1 (wa1 W 255) δ) L.1) (enL L 0)).1 < 960 by rw [hn52, hn51]; omega)
      rw [hn52, hn51] at hn53
      iterate 3 refine Wp.go rfl ?_
      refine Wp.call rfl cqX12_putPile (sX12_putPile hc6 (by omega) hf hg (by rw [hn53]; omega) hW53 (fun j hj => by rw [((((((mo.rf (cs := [184]) (fs := [24])).tr ho49).tr ho50).tr ho51).tr ho52).tr ho53).1 183 (by decide) (by decide)]; exact hR j hj)) (fun rv54 s54 hq54 => ?_)
      obtain ⟨rfl, hW54, ho54⟩ := hq54
      refine Wp.go rfl ?_
      refine Wp.call rfl cqX12_keepEntries (sX12_keepEntries (hL.o (((((((mo.rf (cs := [184]) (fs := [24])).tr ho49).tr ho50).tr ho51).tr ho52).tr ho53).tr ho54))) (fun rv55 s55 hq55 => ?_)
      obtain ⟨rfl, hB55, ho55⟩ := hq55
      refine Wp.ret rfl ?_
      refine ⟨rfl, ?_, hB55, ((((((((mo.rf (cs := [184]) (fs := [24])).tr ho49).tr ho50).tr ho51).tr ho52).tr ho53).tr ho54).wi (by decide) (by decide)).tr (ho55.wi (by decide) (by decide))⟩
      have hba : baA L B = false := by have := hA.2; unfold baA; grind
      have hz := (mBy.o hW54 ho55)
      have e9 : w1A B L (tqA c e0A) δ = 255 :: δ :: L.1 :: (enL L 0 ++ (tqA c e0A).1 :: enL (tqA c e0A) 0) := by unfold w1A; rw [if_neg (by grind), if_neg (by grind), if_neg (by grind)]
      rw [e9]
      show mBy (waL (wa1 (wa1 (wa1 W 255) δ) L.1) (enL L 0 ++ (tqA c e0A).1 :: enL (tqA c e0A) 0)) _
      rw [waL_app]
      exact hz
    · iterate 11 refine Wp.go rfl ?_
      refine Wp.eqN (a := 1) (b := 0) (rfl : _ = nI 1) (rfl : _ = nI 0) (by decide) (by decide) (fun q => absurd q (by decide)) (fun _ => ?_)
      iterate 2 refine Wp.go rfl ?_
      refine Wp.neI (iE_sub (hL.o (mo.rf (cs := [184]) (fs := [24]))).1 (hB.o (mo.rf (cs := [184]) (fs := [24]))).1) (rfl : _ = nI 0) (fun (h18 : ¬ nI L.1 - nI B.1 = nI 0) => ?_) (fun (h18 : nI L.1 - nI B.1 = nI 0) => ?_)
      · iterate 2 refine Wp.go rfl ?_
        refine Wp.eqN (a := 1) (b := 0) (rfl : _ = nI 1) (rfl : _ = nI 0) (by decide) (by decide) (fun q => absurd q (by decide)) (fun _ => ?_)
        iterate 2 refine Wp.go rfl ?_
        refine Wp.neN (a := (tqA c e0A).1) (b := 0) hq (rfl : _ = nI 0) (by omega) (by omega) (fun (h20 : ¬ (tqA c e0A).1 = 0) => ?_) (fun (h20 : (tqA c e0A).1 = 0) => ?_)
        · iterate 2 refine Wp.go rfl ?_
          refine Wp.call rfl cqX12_put (sX12_put hW (by omega) (rfl : _ = nI 255)) (fun rv56 s56 hq56 => ?_)
          obtain ⟨rfl, hW56, ho56⟩ := hq56
          have hn56 := wa_1 (W := W) (q := 255) (by omega)
          iterate 2 refine Wp.go rfl ?_
          refine Wp.call rfl cqX12_put (sX12_put hW56 (by rw [hn56]; omega) hd) (fun rv57 s57 hq57 => ?_)
          obtain ⟨rfl, hW57, ho57⟩ := hq57
          have hn57 := wa_1 (q := δ) (show (wa1 W 255).1 < 960 by rw [hn56]; omega)
          rw [hn56] at hn57
          iterate 3 refine Wp.go rfl ?_
          refine Wp.call rfl cqX12_put (sX12_put hW57 (by rw [hn57]; omega) (hL.o (((mo.rf (cs := [184]) (fs := [24])).tr ho56).tr ho57)).1) (fun rv58 s58 hq58 => ?_)
          obtain ⟨rfl, hW58, ho58⟩ := hq58
          have hn58 := wa_1 (q := L.1) (show (wa1 (wa1 W 255) δ).1 < 960 by rw [hn57]; omega)
          rw [hn57] at hn58
          iterate 2 refine Wp.go rfl ?_
          refine Wp.call rfl cqX12_putEntries (sX12_putEntries (hL.o ((((mo.rf (cs := [184]) (fs := [24])).tr ho56).tr ho57).tr ho58)) hW58 (rfl : _ = nI 0) (by omega) (by rw [hn58]; omega)) (fun rv59 s59 hq59 => ?_)
          obtain ⟨rfl, hW59, ho59⟩ := hq59
          have hl59 := en_l L 0
          have hn59 := waL_1 (enL L 0) (wa1 (wa1 (wa1 W 255) δ) L.1) (by rw [hn58]; omega)
          iterate 2 refine Wp.go rfl ?_
          refine Wp.call rfl cqX12_put (sX12_put hW59 (by rw [hn59, hn58]; omega) hq) (fun rv60 s60 hq60 => ?_)
          obtain ⟨rfl, hW60, ho60⟩ := hq60
          have hn60 := wa_1 (q := (tqA c e0A).1) (show (waL (wa1 (wa1 (wa1 W 255) δ) L.1) (enL L 0)).1 < 960 by rw [hn59, hn58]; omega)
          rw [hn59, hn58] at hn60
          iterate 3 refine Wp.go rfl ?_
          refine Wp.call rfl cqX12_putPile (sX12_putPile hc6 (by omega) hf hg (by rw [hn60]; omega) hW60 (fun j hj => by rw [((((((mo.rf (cs := [184]) (fs := [24])).tr ho56).tr ho57).tr ho58).tr ho59).tr ho60).1 183 (by decide) (by decide)]; exact hR j hj)) (fun rv61 s61 hq61 => ?_)
          obtain ⟨rfl, hW61, ho61⟩ := hq61
          refine Wp.go rfl ?_
          refine Wp.call rfl cqX12_keepEntries (sX12_keepEntries (hL.o (((((((mo.rf (cs := [184]) (fs := [24])).tr ho56).tr ho57).tr ho58).tr ho59).tr ho60).tr ho61))) (fun rv62 s62 hq62 => ?_)
          obtain ⟨rfl, hB62, ho62⟩ := hq62
          refine Wp.ret rfl ?_
          refine ⟨rfl, ?_, hB62, ((((((((mo.rf (cs := [184]) (fs := [24])).tr ho56).tr ho57).tr ho58).tr ho59).tr ho60).tr ho61).wi (by decide) (by decide)).tr (ho62.wi (by decide) (by decide))⟩
          have hba : baA L B = true := by have := hA.2; unfold baA; grind
          have hm : ¬ L.1 = B.1 := fun r => h18 ((sub0 hl8 hb8).mpr r)
          have hz := (mBy.o hW61 ho62)
          have e9 : w1A B L (tqA c e0A) δ = 255 :: δ :: L.1 :: (enL L 0 ++ (tqA c e0A).1 :: enL (tqA c e0A) 0) := by unfold w1A; rw [if_neg (by grind), if_neg (by grind), if_neg (by grind)]
          rw [e9]
          show mBy (waL (wa1 (wa1 (wa1 W 255) δ) L.1) (enL L 0 ++ (tqA c e0A).1 :: enL (tqA c e0A) 0)) _
          rw [waL_app]
          exact hz
        · iterate 3 refine Wp.go rfl ?_
          refine Wp.call rfl cqX12_isIn (sX12_isIn) (fun rv63 s63 hq63 => ?_)
          obtain ⟨rfl, hq63⟩ := hq63
          replace hq63 := hq63.symm
          subst hq63
          refine Wp.go rfl ?_
          refine Wp.beqD (p := (L.1 - B.1) + (B.1 - L.1) ≤ 3) (congrArg bI (in3 hl8 hb8 (iE_sub (hL.o (mo.rf (cs := [184]) (fs := [24]))).1 (hB.o (mo.rf (cs := [184]) (fs := [24]))).1))) (fun (h21 : ¬ ((L.1 - B.1) + (B.1 - L.1) ≤ 3)) => ?_) (fun (h21 : (L.1 - B.1) + (B.1 - L.1) ≤ 3) => ?_)
          · iterate 2 refine Wp.go rfl ?_
            refine Wp.call rfl cqX12_put (sX12_put hW (by omega) (rfl : _ = nI 255)) (fun rv64 s64 hq64 => ?_)
            obtain ⟨rfl, hW64, ho64⟩ := hq64
            have hn64 := wa_1 (W := W) (q := 255) (by omega)
            iterate 2 refine Wp.go rfl ?_
            refine Wp.call rfl cqX12_put (sX12_put hW64 (by rw [hn64]; omega) hd) (fun rv65 s65 hq65 => ?_)
            obtain ⟨rfl, hW65, ho65⟩ := hq65
            have hn65 := wa_1 (q := δ) (show (wa1 W 255).1 < 960 by rw [hn64]; omega)
            rw [hn64] at hn65
            iterate 3 refine Wp.go rfl ?_
            refine Wp.call rfl cqX12_put (sX12_put hW65 (by rw [hn65]; omega) (hL.o (((mo.rf (cs := [184]) (fs := [24])).tr ho64).tr ho65)).1) (fun rv66 s66 hq66 => ?_)
            obtain ⟨rfl, hW66, ho66⟩ := hq66
            have hn66 := wa_1 (q := L.1) (show (wa1 (wa1 W 255) δ).1 < 960 by rw [hn65]; omega)
            rw [hn65] at hn66
            iterate 2 refine Wp.go rfl ?_
            refine Wp.call rfl cqX12_putEntries (sX12_putEntries (hL.o ((((mo.rf (cs := [184]) (fs := [24])).tr ho64).tr ho65).tr ho66)) hW66 (rfl : _ = nI 0) (by omega) (by rw [hn66]; omega)) (fun rv67 s67 hq67 => ?_)
            obtain ⟨rfl, hW67, ho67⟩ := hq67
            have hl67 := en_l L 0
            have hn67 := waL_1 (enL L 0) (wa1 (wa1 (wa1 W 255) δ) L.1) (by rw [hn66]; omega)
            iterate 2 refine Wp.go rfl ?_
            refine Wp.call rfl cqX12_put (sX12_put hW67 (by rw [hn67, hn66]; omega) hq) (fun rv68 s68 hq68 => ?_)
            obtain ⟨rfl, hW68, ho68⟩ := hq68
            have hn68 := wa_1 (q := (tqA c e0A).1) (show (waL (wa1 (wa1 (wa1 W 255) δ) L.1) (enL L 0)).1 < 960 by rw [hn67, hn66]; omega)
            rw [hn67, hn66] at hn68
            iterate 3 refine Wp.go rfl ?_
            refine Wp.call rfl cqX12_putPile (sX12_putPile hc6 (by omega) hf hg (by rw [hn68]; omega) hW68 (fun j hj => by rw [((((((mo.rf (cs := [184]) (fs := [24])).tr ho64).tr ho65).tr ho66).tr ho67).tr ho68).1 183 (by decide) (by decide)]; exact hR j hj)) (fun rv69 s69 hq69 => ?_)
            obtain ⟨rfl, hW69, ho69⟩ := hq69
            refine Wp.go rfl ?_
            refine Wp.call rfl cqX12_keepEntries (sX12_keepEntries (hL.o (((((((mo.rf (cs := [184]) (fs := [24])).tr ho64).tr ho65).tr ho66).tr ho67).tr ho68).tr ho69))) (fun rv70 s70 hq70 => ?_)
            obtain ⟨rfl, hB70, ho70⟩ := hq70
            refine Wp.ret rfl ?_
            refine ⟨rfl, ?_, hB70, ((((((((mo.rf (cs := [184]) (fs := [24])).tr ho64).tr ho65).tr ho66).tr ho67).tr ho68).tr ho69).wi (by decide) (by decide)).tr (ho70.wi (by decide) (by decide))⟩
            have hba : baA L B = true := by have := hA.2; unfold baA; grind
            have hm : ¬ L.1 = B.1 := fun r => h18 ((sub0 hl8 hb8).mpr r)
            have hz := (mBy.o hW69 ho70)
            have e9 : w1A B L (tqA c e0A) δ = 255 :: δ :: L.1 :: (enL L 0 ++ (tqA c e0A).1 :: enL (tqA c e0A) 0) := by unfold w1A; rw [if_neg (by grind), if_neg (by grind), if_neg (by grind)]
            rw [e9]
            show mBy (waL (wa1 (wa1 (wa1 W 255) δ) L.1) (enL L 0 ++ (tqA c e0A).1 :: enL (tqA c e0A) 0)) _
            rw [waL_app]
            exact hz
          · iterate 4 refine Wp.go rfl ?_
            refine Wp.call rfl cqX12_put (sX12_put hW (by omega) (add251 (rfl : _ = nI 251) hl8 hb8 (iE_sub (hL.o (mo.rf (cs := [184]) (fs := [24]))).1 (hB.o (mo.rf (cs := [184]) (fs := [24]))).1))) (fun rv71 s71 hq71 => ?_)
            obtain ⟨rfl, hW71, ho71⟩ := hq71
            have hn71 := wa_1 (W := W) (q := 251 + L.1 - B.1) (by omega)
            iterate 2 refine Wp.go rfl ?_
            refine Wp.call rfl cqX12_put (sX12_put hW71 (by rw [hn71]; omega) hd) (fun rv72 s72 hq72 => ?_)
            obtain ⟨rfl, hW72, ho72⟩ := hq72
            have hn72 := wa_1 (q := δ) (show (wa1 W (251 + L.1 - B.1)).1 < 960 by rw [hn71]; omega)
            rw [hn71] at hn72
            iterate 3 refine Wp.go rfl ?_
            refine Wp.leI (iE_sub (hL.o (mo.rf (cs := [184]) (fs := [24]))).1 (hB.o (mo.rf (cs := [184]) (fs := [24]))).1) (rfl : _ = nI 0) (fun (h22 : ¬ nI 0 < nI L.1 - nI B.1) => ?_) (fun (h22 : nI 0 < nI L.1 - nI B.1) => ?_)
            · iterate 2 refine Wp.go rfl ?_
              refine Wp.call rfl cqX12_putEntries (sX12_putEntries (hL.o (((mo.rf (cs := [184]) (fs := [24])).tr ho71).tr ho72)) hW72 (hL.o (((mo.rf (cs := [184]) (fs := [24])).tr ho71).tr ho72)).1 (by omega) (by rw [hn72]; omega)) (fun rv73 s73 hq73 => ?_)
              obtain ⟨rfl, hW73, ho73⟩ := hq73
              have hl73 := en_l L L.1
              have hn73 := waL_1 (enL L L.1) (wa1 (wa1 W (251 + L.1 - B.1)) δ) (by rw [hn72]; omega)
              iterate 2 refine Wp.go rfl ?_
              refine Wp.call rfl cqX12_keepEntries (sX12_keepEntries (hL.o ((((mo.rf (cs := [184]) (fs := [24])).tr ho71).tr ho72).tr ho73))) (fun rv74 s74 hq74 => ?_)
              obtain ⟨rfl, hB74, ho74⟩ := hq74
              refine Wp.ret rfl ?_
              refine ⟨rfl, ?_, hB74, (((((mo.rf (cs := [184]) (fs := [24])).tr ho71).tr ho72).tr ho73).wi (by decide) (by decide)).tr (ho74.wi (by decide) (by decide))⟩
              have hba : baA L B = true := by have := hA.2; unfold baA; grind
              have hm : ¬ L.1 = B.1 := fun r => h18 ((sub0 hl8 hb8).mpr r)
              have hgt : ¬ B.1 < L.1 := fun r => h22 ((gt0 hl8 hb8).mpr r)
              have hz := (mBy.o hW73 ho74)
              have e9 : w1A B L (tqA c e0A) δ = (251 + L.1 - B.1) :: δ :: enL L B.1 := by unfold w1A; rw [if_neg (by grind), if_neg (by grind), if_pos (by grind)]
              rw [e9]
              rw [en_0 (Nat.le_refl _)] at hz
              rw [en_0 (show L.1 ≤ B.1 by omega)]
              exact hz
            · iterate 3 refine Wp.go rfl ?_
              refine Wp.call rfl cqX12_putEntries (sX12_putEntries (hL.o (((mo.rf (cs := [184]) (fs := [24])).tr ho71).tr ho72)) hW72 (hB.o (((mo.rf (cs := [184]) (fs := [24])).tr ho71).tr ho72)).1 (by omega) (by rw [hn72]; omega)) (fun rv75 s75 hq75 => ?_)
              obtain ⟨rfl, hW75, ho75⟩ := hq75
              have hl75 := en_l L B.1
              have hn75 := waL_1 (enL L B.1) (wa1 (wa1 W (251 + L.1 - B.1)) δ) (by rw [hn72]; omega)
              iterate 2 refine Wp.go rfl ?_
              refine Wp.call rfl cqX12_keepEntries (sX12_keepEntries (hL.o ((((mo.rf (cs := [184]) (fs := [24])).tr ho71).tr ho72).tr ho75))) (fun rv76 s76 hq76 => ?_)
              obtain ⟨rfl, hB76, ho76⟩ := hq76
              refine Wp.ret rfl ?_
              refine ⟨rfl, ?_, hB76, (((((mo.rf (cs := [184]) (fs := [24])).tr ho71).tr ho72).tr ho75).wi (by decide) (by decide)).tr (ho76.wi (by decide) (by decide))⟩
              have hba : baA L B = true := by have := hA.2; unfold baA; grind
              have hm : ¬ L.1 = B.1 := fun r => h18 ((sub0 hl8 hb8).mpr r)
              have hgt : B.1 < L.1 := (gt0 hl8 hb8).mp h22
              have hz := (mBy.o hW75 ho76)
              have e9 : w1A B L (tqA c e0A) δ = (251 + L.1 - B.1) :: δ :: enL L B.1 := by unfold w1A; rw [if_neg (by grind), if_neg (by grind), if_pos (by grind)]
              rw [e9]
              exact hz
      · iterate 3 refine Wp.go rfl ?_
        refine Wp.geN (a := (tqA c e0A).1) (b := 2) hq (rfl : _ = nI 2) (by omega) (by omega) (fun (h23 : ¬ (tqA c e0A).1 < 2) => ?_) (fun (h23 : (tqA c e0A).1 < 2) => ?_)
        · iterate 2 refine Wp.go rfl ?_
          refine Wp.eqN (a := 1) (b := 0) (rfl : _ = nI 1) (rfl : _ = nI 0) (by decide) (by decide) (fun q => absurd q (by decide)) (fun _ => ?_)
          iterate 2 refine Wp.go rfl ?_
          refine Wp.neN (a := (tqA c e0A).1) (b := 0) hq (rfl : _ = nI 0) (by omega) (by omega) (fun (h25 : ¬ (tqA c e0A).1 = 0) => ?_) (fun (h25 : (tqA c e0A).1 = 0) => ?_)
          · iterate 2 refine Wp.go rfl ?_
            refine Wp.call rfl cqX12_put (sX12_put hW (by omega) (rfl : _ = nI 255)) (fun rv77 s77 hq77 => ?_)
            obtain ⟨rfl, hW77, ho77⟩ := hq77
            have hn77 := wa_1 (W := W) (q := 255) (by omega)
            iterate 2 refine Wp.go rfl ?_
            refine Wp.call rfl cqX12_put (sX12_put hW77 (by rw [hn77]; omega) hd) (fun rv78 s78 hq78 => ?_)
            obtain ⟨rfl, hW78, ho78⟩ := hq78
            have hn78 := wa_1 (q := δ) (show (wa1 W 255).1 < 960 by rw [hn77]; omega)
            rw [hn77] at hn78
            iterate 3 refine Wp.go rfl ?_
            refine Wp.call rfl cqX12_put (sX12_put hW78 (by rw [hn78]; omega) (hL.o (((mo.rf (cs := [184]) (fs := [24])).tr ho77).tr ho78)).1) (fun rv79 s79 hq79 => ?_)
            obtain ⟨rfl, hW79, ho79⟩ := hq79
            have hn79 := wa_1 (q := L.1) (show (wa1 (wa1 W 255) δ).1 < 960 by rw [hn78]; omega)
            rw [hn78] at hn79
            iterate 2 refine Wp.go rfl ?_
            refine Wp.call rfl cqX12_putEntries (sX12_putEntries (hL.o ((((mo.rf (cs := [184]) (fs := [24])).tr ho77).tr ho78).tr ho79)) hW79 (rfl : _ = nI 0) (by omega) (by rw [hn79]; omega)) (fun rv80 s80 hq80 => ?_)
            obtain ⟨rfl, hW80, ho80⟩ := hq80
            have hl80 := en_l L 0
            have hn80 := waL_1 (enL L 0) (wa1 (wa1 (wa1 W 255) δ) L.1) (by rw [hn79]; omega)
            iterate 2 refine Wp.go rfl ?_
            refine Wp.call rfl cqX12_put (sX12_put hW80 (by rw [hn80, hn79]; omega) hq) (fun rv81 s81 hq81 => ?_)
            obtain ⟨rfl, hW81, ho81⟩ := hq81
            have hn81 := wa_1 (q := (tqA c e0A).1) (show (waL (wa1 (wa1 (wa1 W 255) δ) L.1) (enL L 0)).1 < 960 by rw [hn80, hn79]; omega)
            rw [hn80, hn79] at hn81
            iterate 3 refine Wp.go rfl ?_
            refine Wp.call rfl cqX12_putPile (sX12_putPile hc6 (by omega) hf hg (by rw [hn81]; omega) hW81 (fun j hj => by rw [((((((mo.rf (cs := [184]) (fs := [24])).tr ho77).tr ho78).tr ho79).tr ho80).tr ho81).1 183 (by decide) (by decide)]; exact hR j hj)) (fun rv82 s82 hq82 => ?_)
            obtain ⟨rfl, hW82, ho82⟩ := hq82
            refine Wp.go rfl ?_
            refine Wp.call rfl cqX12_keepEntries (sX12_keepEntries (hL.o (((((((mo.rf (cs := [184]) (fs := [24])).tr ho77).tr ho78).tr ho79).tr ho80).tr ho81).tr ho82))) (fun rv83 s83 hq83 => ?_)
            obtain ⟨rfl, hB83, ho83⟩ := hq83
            refine Wp.ret rfl ?_
            refine ⟨rfl, ?_, hB83, ((((((((mo.rf (cs := [184]) (fs := [24])).tr ho77).tr ho78).tr ho79).tr ho80).tr ho81).tr ho82).wi (by decide) (by decide)).tr (ho83.wi (by decide) (by decide))⟩
            have hba : baA L B = true := by have := hA.2; unfold baA; grind
            have hm : L.1 = B.1 := (sub0 hl8 hb8).mp h18
            have hz := (mBy.o hW82 ho83)
            have e9 : w1A B L (tqA c e0A) δ = 255 :: δ :: L.1 :: (enL L 0 ++ (tqA c e0A).1 :: enL (tqA c e0A) 0) := by unfold w1A; rw [if_neg (by grind), if_neg (by grind), if_neg (by grind)]
            rw [e9]
            show mBy (waL (wa1 (wa1 (wa1 W 255) δ) L.1) (enL L 0 ++ (tqA c e0A).1 :: enL (tqA c e0A) 0)) _
            rw [waL_app]
            exact hz
          · iterate 3 refine Wp.go rfl ?_
            refine Wp.call rfl cqX12_isIn (sX12_isIn) (fun rv84 s84 hq84 => ?_)
            obtain ⟨rfl, hq84⟩ := hq84
            replace hq84 := hq84.symm
            subst hq84
            refine Wp.go rfl ?_
            refine Wp.beqD (p := (L.1 - B.1) + (B.1 - L.1) ≤ 3) (congrArg bI (in3 hl8 hb8 (iE_sub (hL.o (mo.rf (cs := [184]) (fs := [24]))).1 (hB.o (mo.rf (cs := [184]) (fs := [24]))).1))) (fun (h26 : ¬ ((L.1 - B.1) + (B.1 - L.1) ≤ 3)) => ?_) (fun (h26 : (L.1 - B.1) + (B.1 - L.1) ≤ 3) => ?_)
            · iterate 2 refine Wp.go rfl ?_
              refine Wp.call rfl cqX12_put (sX12_put hW (by omega) (rfl : _ = nI 255)) (fun rv85 s85 hq85 => ?_)
              obtain ⟨rfl, hW85, ho85⟩ := hq85
              have hn85 := wa_1 (W := W) (q := 255) (by omega)
              iterate 2 refine Wp.go rfl ?_
              refine Wp.call rfl cqX12_put (sX12_put hW85 (by rw [hn85]; omega) hd) (fun rv86 s86 hq86 => ?_)
              obtain ⟨rfl, hW86, ho86⟩ := hq86
              have hn86 := wa_1 (q := δ) (show (wa1 W 255).1 < 960 by rw [hn85]; omega)
              rw [hn85] at hn86
              iterate 3 refine Wp.go rfl ?_
              refine Wp.call rfl cqX12_put (sX12_put hW86 (by rw [hn86]; omega) (hL.o (((mo.rf (cs := [184]) (fs := [24])).tr ho85).tr ho86)).1) (fun rv87 s87 hq87 => ?_)
              obtain ⟨rfl, hW87, ho87⟩ := hq87
              have hn87 := wa_1 (q := L.1) (show (wa1 (wa1 W 255) δ).1 < 960 by rw [hn86]; omega)
              rw [hn86] at hn87
              iterate 2 refine Wp.go rfl ?_
              refine Wp.call rfl cqX12_putEntries (sX12_putEntries (hL.o ((((mo.rf (cs := [184]) (fs := [24])).tr ho85).tr ho86).tr ho87)) hW87 (rfl : _ = nI 0) (by omega) (by rw [hn87]; omega)) (fun rv88 s88 hq88 => ?_)
              obtain ⟨rfl, hW88, ho88⟩ := hq88
              have hl88 := en_l L 0
              have hn88 := waL_1 (enL L 0) (wa1 (wa1 (wa1 W 255) δ) L.1) (by rw [hn87]; omega)
              iterate 2 refine Wp.go rfl ?_
              refine Wp.call rfl cqX12_put (sX12_put hW88 (by rw [hn88, hn87]; omega) hq) (fun rv89 s89 hq89 => ?_)
              obtain ⟨rfl, hW89, ho89⟩ := hq89
              have hn89 := wa_1 (q := (tqA c e0A).1) (show (waL (wa1 (wa1 (wa1 W 255) δ) L.1) (enL L 0)).1 < 960 by rw [hn88, hn87]; omega)
              rw [hn88, hn87] at hn89
              iterate 3 refine Wp.go rfl ?_
              refine Wp.call rfl cqX12_putPile (sX12_putPile hc6 (by omega) hf hg (by rw [hn89]; omega) hW89 (fun j hj => by rw [((((((mo.rf (cs := [184]) (fs := [24])).tr ho85).tr ho86).tr ho87).tr ho88).tr ho89).1 183 (by decide) (by decide)]; exact hR j hj)) (fun rv90 s90 hq90 => ?_)
              obtain ⟨rfl, hW90, ho90⟩ := hq90
              refine Wp.go rfl ?_
              refine Wp.call rfl cqX12_keepEntries (sX12_keepEntries (hL.o (((((((mo.rf (cs := [184]) (fs := [24])).tr ho85).tr ho86).tr ho87).tr ho88).tr ho89).tr ho90))) (fun rv91 s91 hq91 => ?_)
              obtain ⟨rfl, hB91, ho91⟩ := hq91
              refine Wp.ret rfl ?_
              refine ⟨rfl, ?_, hB91, ((((((((mo.rf (cs := [184]) (fs := [24])).tr ho85).tr ho86).tr ho87).tr ho88).tr ho89).tr ho90).wi (by decide) (by decide)).tr (ho91.wi (by decide) (by decide))⟩
              have hba : baA L B = true := by have := hA.2; unfold baA; grind
              have hm : L.1 = B.1 := (sub0 hl8 hb8).mp h18
              have hz := (mBy.o hW90 ho91)
              have e9 : w1A B L (tqA c e0A) δ = 255 :: δ :: L.1 :: (enL L 0 ++ (tqA c e0A).1 :: enL (tqA c e0A) 0) := by unfold w1A; rw [if_neg (by grind), if_neg (by grind), if_neg (by grind)]
              rw [e9]
              show mBy (waL (wa1 (wa1 (wa1 W 255) δ) L.1) (enL L 0 ++ (tqA c e0A).1 :: enL (tqA c e0A) 0)) _
              rw [waL_app]
              exact hz
            · iterate 4 refine Wp.go rfl ?_
              refine Wp.call rfl cqX12_put (sX12_put hW (by omega) (add251 (rfl : _ = nI 251) hl8 hb8 (iE_sub (hL.o (mo.rf (cs := [184]) (fs := [24]))).1 (hB.o (mo.rf (cs := [184]) (fs := [24]))).1))) (fun rv92 s92 hq92 => ?_)
              obtain ⟨rfl, hW92, ho92⟩ := hq92
              have hn92 := wa_1 (W := W) (q := 251 + L.1 - B.1) (by omega)
              iterate 2 refine Wp.go rfl ?_
              refine Wp.call rfl cqX12_put (sX12_put hW92 (by rw [hn92]; omega) hd) (fun rv93 s93 hq93 => ?_)
              obtain ⟨rfl, hW93, ho93⟩ := hq93
              have hn93 := wa_1 (q := δ) (show (wa1 W (251 + L.1 - B.1)).1 < 960 by rw [hn92]; omega)
              rw [hn92] at hn93
              iterate 3 refine Wp.go rfl ?_
              refine Wp.leI (iE_sub (hL.o (mo.rf (cs := [184]) (fs := [24]))).1 (hB.o (mo.rf (cs := [184]) (fs := [24]))).1) (rfl : _ = nI 0) (fun (h27 : ¬ nI 0 < nI L.1 - nI B.1) => ?_) (fun (h27 : nI 0 < nI L.1 - nI B.1) => ?_)
              · iterate 2 refine Wp.go rfl ?_
                refine Wp.call rfl cqX12_putEntries (sX12_putEntries (hL.o (((mo.rf (cs := [184]) (fs := [24])).tr ho92).tr ho93)) hW93 (hL.o (((mo.rf (cs := [184]) (fs := [24])).tr ho92).tr ho93)).1 (by omega) (by rw [hn93]; omega)) (fun rv94 s94 hq94 => ?_)
                obtain ⟨rfl, hW94, ho94⟩ := hq94
                have hl94 := en_l L L.1
                have hn94 := waL_1 (enL L L.1) (wa1 (wa1 W (251 + L.1 - B.1)) δ) (by rw [hn93]; omega)
                iterate 2 refine Wp.go rfl ?_
                refine Wp.call rfl cqX12_keepEntries (sX12_keepEntries (hL.o ((((mo.rf (cs := [184]) (fs := [24])).tr ho92).tr ho93).tr ho94))) (fun rv95 s95 hq95 => ?_)
                obtain ⟨rfl, hB95, ho95⟩ := hq95
                refine Wp.ret rfl ?_
                refine ⟨rfl, ?_, hB95, (((((mo.rf (cs := [184]) (fs := [24])).tr ho92).tr ho93).tr ho94).wi (by decide) (by decide)).tr (ho95.wi (by decide) (by decide))⟩
                have hba : baA L B = true := by have := hA.2; unfold baA; grind
                have hm : L.1 = B.1 := (sub0 hl8 hb8).mp h18
                have hgt : ¬ B.1 < L.1 := fun r => h27 ((gt0 hl8 hb8).mpr r)
                have hz := (mBy.o hW94 ho95)
                have e9 : w1A B L (tqA c e0A) δ = (251 + L.1 - B.1) :: δ :: enL L B.1 := by unfold w1A; rw [if_neg (by grind), if_neg (by grind), if_pos (by grind)]
                rw [e9]
                rw [en_0 (Nat.le_refl _)] at hz
                rw [en_0 (show L.1 ≤ B.1 by omega)]
                exact hz
              · iterate 3 refine Wp.go rfl ?_
                refine Wp.call rfl cqX12_putEntries (sX12_putEntries (hL.o (((mo.rf (cs := [184]) (fs := [24])).tr ho92).tr ho93)) hW93 (hB.o (((mo.rf (cs := [184]) (fs := [24])).tr ho92).tr ho93)).1 (by omega) (by rw [hn93]; omega)) (fun rv96 s96 hq96 => ?_)
                obtain ⟨rfl, hW96, ho96⟩ := hq96
                have hl96 := en_l L B.1
                have hn96 := waL_1 (enL L B.1) (wa1 (wa1 W (251 + L.1 - B.1)) δ) (by rw [hn93]; omega)
                iterate 2 refine Wp.go rfl ?_
                refine Wp.call rfl cqX12_keepEntries (sX12_keepEntries (hL.o ((((mo.rf (cs := [184]) (fs := [24])).tr ho92).tr ho93).tr ho96))) (fun rv97 s97 hq97 => ?_)
                obtain ⟨rfl, hB97, ho97⟩ := hq97
                refine Wp.ret rfl ?_
                refine ⟨rfl, ?_, hB97, (((((mo.rf (cs := [184]) (fs := [24])).tr ho92).tr ho93).tr ho96).wi (by decide) (by decide)).tr (ho97.wi (by decide) (by decide))⟩
                have hba : baA L B = true := by have := hA.2; unfold baA; grind
                have hm : L.1 = B.1 := (sub0 hl8 hb8).mp h18
                have hgt : B.1 < L.1 := (gt0 hl8 hb8).mp h27
                have hz := (mBy.o hW96 ho97)
                have e9 : w1A B L (tqA c e0A) δ = (251 + L.1 - B.1) :: δ :: enL L B.1 := by unfold w1A; rw [if_neg (by grind), if_neg (by grind), if_pos (by grind)]
                rw [e9]
                exact hz
        · iterate 3 refine Wp.go rfl ?_
          refine Wp.neN (a := (tqA c e0A).1) (b := 0) hq (rfl : _ = nI 0) (by omega) (by omega) (fun (h28 : ¬ (tqA c e0A).1 = 0) => ?_) (fun (h28 : (tqA c e0A).1 = 0) => ?_)
          · iterate 3 refine Wp.go rfl ?_
            refine Wp.call rfl cqX12_put (sX12_put hW (by omega) (nE_add (rfl : _ = nI 64) hd)) (fun rv98 s98 hq98 => ?_)
            obtain ⟨rfl, hW98, ho98⟩ := hq98
            have hn98 := wa_1 (W := W) (q := 64 + δ) (by omega)
            iterate 3 refine Wp.go rfl ?_
            refine Wp.call rfl cqX12_putPile (sX12_putPile hc6 (by omega) hf hg (by rw [hn98]; omega) hW98 (fun j hj => by rw [((mo.rf (cs := [184]) (fs := [24])).tr ho98).1 183 (by decide) (by decide)]; exact hR j hj)) (fun rv99 s99 hq99 => ?_)
            obtain ⟨rfl, hW99, ho99⟩ := hq99
            iterate 2 refine Wp.go rfl ?_
            refine Wp.call rfl cqX12_keepEntries (sX12_keepEntries (hL.o (((mo.rf (cs := [184]) (fs := [24])).tr ho98).tr ho99))) (fun rv100 s100 hq100 => ?_)
            obtain ⟨rfl, hB100, ho100⟩ := hq100
            refine Wp.ret rfl ?_
            refine ⟨rfl, ?_, hB100, ((((mo.rf (cs := [184]) (fs := [24])).tr ho98).tr ho99).wi (by decide) (by decide)).tr (ho100.wi (by decide) (by decide))⟩
            have hba : baA L B = true := by have := hA.2; unfold baA; grind
            have hm : L.1 = B.1 := (sub0 hl8 hb8).mp h18
            have hz := (mBy.o hW99 ho100)
            have e9 : w1A B L (tqA c e0A) δ = (64 + δ) :: enL (tqA c e0A) 0 := by unfold w1A; rw [if_neg (by grind), if_pos (by grind)]
            rw [e9]
            exact hz
          · iterate 2 refine Wp.go rfl ?_
            refine Wp.call rfl cqX12_put (sX12_put hW (by omega) hd) (fun rv101 s101 hq101 => ?_)
            obtain ⟨rfl, hW101, ho101⟩ := hq101
            have hn101 := wa_1 (W := W) (q := δ) (by omega)
            iterate 3 refine Wp.go rfl ?_
            refine Wp.call rfl cqX12_putPile (sX12_putPile hc6 (by omega) hf hg (by rw [hn101]; omega) hW101 (fun j hj => by rw [((mo.rf (cs := [184]) (fs := [24])).tr ho101).1 183 (by decide) (by decide)]; exact hR j hj)) (fun rv102 s102 hq102 => ?_)
            obtain ⟨rfl, hW102, ho102⟩ := hq102
            iterate 2 refine Wp.go rfl ?_
            refine Wp.call rfl cqX12_keepEntries (sX12_keepEntries (hL.o (((mo.rf (cs := [184]) (fs := [24])).tr ho101).tr ho102))) (fun rv103 s103 hq103 => ?_)
            obtain ⟨rfl, hB103, ho103⟩ := hq103
            refine Wp.ret rfl ?_
            refine ⟨rfl, ?_, hB103, ((((mo.rf (cs := [184]) (fs := [24])).tr ho101).tr ho102).wi (by decide) (by decide)).tr (ho103.wi (by decide) (by decide))⟩
            have hba : baA L B = true := by have := hA.2; unfold baA; grind
            have hm : L.1 = B.1 := (sub0 hl8 hb8).mp h18
            have hz := (mBy.o hW102 ho103)
            have e9 : w1A B L (tqA c e0A) δ = [δ] := by unfold w1A; rw [if_pos (by grind)]
            rw [e9]
            rw [en_0 (show (tqA c e0A).1 ≤ 0 by omega)] at hz
            exact hz
set_option maxRecDepth 100000 in
theorem sX12_write {B : eS} {W : wS} {c : cS} {i δ m : Nat} {σ : mc_G} (hB : mBe B σ) (hW : mBy W σ) (h9 : W.1 + 32 ≤ 960) (h6 : c.1 ≤ 6) (hi : i < 30) (hR : ∀ j, j < 8 + c.1 → σ 183 (14 * i + j) = nI (c.2 j) ∧ c.2 j < 300) (hm : σ 177 i = nI m) (hm7 : m < 128) (hmh : hiO m = c.1) {x d : Int32} (hx : x = nI i) (hd : d = nI δ) : Wp miX12_write 0 [(0, .inr (some 167)), (1, .inl x), (2, .inl d)] [] σ (fun rv σ' => rv = none ∧ mBy (waL W (w1A B (tlA c e0A) (tqA c e0A) δ)) σ' ∧ mBe (tlA c e0A) σ' ∧ mo [184, 185, 186] [24, 27, 29] σ σ') := by
  iterate 2 refine Wp.go rfl ?_
  refine Wp.call rfl cqX12_highOf (sX12_highOf hx hi hm hm7) (fun rv1 s1 hq1 => ?_)
  obtain ⟨rfl, hq1⟩ := hq1
  replace hq1 := hq1.symm
  subst hq1
  have hg : nI (hiO m) = nI c.1 := by rw [hmh]
  iterate 8 refine Wp.go rfl ?_
  refine Wp.call rfl cqX12_pileMany (sX12_pileMany h6 (by omega) (nE_mul (rfl : _ = nI 14) hx) hg hR) (fun rv2 s2 hq2 => ?_)
  obtain ⟨rfl, hq2⟩ := hq2
  replace hq2 := hq2.symm
  subst hq2
  iterate 5 refine Wp.go rfl ?_
  refine Wp.call rfl cqX12_list (sX12_list183 (c := c) (by omega) (nE_mul (rfl : _ = nI 14) hx) (fun j hj => hR j (by omega))) (fun rv3 s3 hq3 => ?_)
  obtain ⟨rfl, hL, ho3⟩ := hq3
  have hB3 := hB.o ho3
  have hW3 := hW.o ho3
  have hR3 : ∀ j, j < 8 + c.1 → s3 183 (14 * i + j) = nI (c.2 j) ∧ c.2 j < 300 := fun j hj => by rw [ho3.1 183 (by decide) (by decide)]; exact hR j hj
  have hl8 := hL.2.1
  have hb8 := hB3.2.1
  have fin : ∀ (v z : Int32), v = nI (min (tlA c e0A).1 B.1) → z = nI 0 → Wp miX12_write 58 [(0, .inr (some 167)), (1, .inl x), (2, .inl d), (3, .inl (nI (hiO m))), (4, .inl (nI 14 * x)), (5, .inl (nI (tqA c e0A).1)), (6, .inl v), (7, .inl z)] [] s3 (fun rv σ' => rv = none ∧ mBy (waL W (w1A B (tlA c e0A) (tqA c e0A) δ)) σ' ∧ mBe (tlA c e0A) σ' ∧ mo [184, 185, 186] [24, 27, 29] σ σ') := by
    intro v z hv hz
    refine lX12_wrA hL hB3 (fun al v1 z1 hv1 hA => ?_) (min (tlA c e0A).1 B.1 + 1) 0 (min (tlA c e0A).1 B.1) _ _ hz hv (by omega) (by omega) ⟨Nat.le_refl _, fun _ => rfl, fun q => by cases q⟩ (fun q => by cases q)
    exact (lX12_wrT hL hB3 hW3 h9 h6 hi hR3 hA hd hg (nE_mul (rfl : _ = nI 14) hx) rfl hv1).mono (fun rv σ' q => ⟨q.1, q.2.1, q.2.2.1, (ho3.wi (by decide) (by decide)).tr q.2.2.2⟩)
  iterate 5 refine Wp.go rfl ?_
  refine Wp.geN (a := (tlA c e0A).1) (b := B.1) hL.1 hB3.1 (by omega) (by omega) (fun (h1 : ¬ (tlA c e0A).1 < B.1) => ?_) (fun (h1 : (tlA c e0A).1 < B.1) => ?_)
  · iterate 5 refine Wp.go rfl ?_
    refine Wp.lo (lo := [(0, .inr (some 167)), (1, .inl _), (2, .inl _), (3, .inl _), (4, .inl _), (5, .inl _), (6, .inl _), (7, .inl _)]) ⟨rfl, rfl, rfl, rfl, rfl, rfl, rfl, rfl, trivial⟩ ?_
    exact fin _ _ (hB3.1.trans (congrArg nI (by omega))) rfl
  · iterate 6 refine Wp.go rfl ?_
    refine Wp.lo (lo := [(0, .inr (some 167)), (1, .inl _), (2, .inl _), (3, .inl _), (4, .inl _), (5, .inl _), (6, .inl _), (7, .inl _)]) ⟨rfl, rfl, rfl, rfl, rfl, rfl, rfl, rfl, trivial⟩ ?_
    exact fin _ _ (hL.1.trans (congrArg nI (by omega))) rfl

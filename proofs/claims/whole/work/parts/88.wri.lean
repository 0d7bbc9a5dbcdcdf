/-! what is WRITTEN is the same -/
def eqv (E D : Nat × (Nat → Nat)) : Prop := E.1 = D.1 ∧ ∀ j, j < E.1 → E.2 j = D.2 j
theorem eqv.rf {E : Nat × (Nat → Nat)} : eqv E E := ⟨rfl, fun _ _ => rfl⟩
theorem et_eqv {c : cS} {E D : eS} (h : eqv E D) (p : Nat) : eqv (etA c E p) (etA c D p) := by
  unfold etA
  rw [← h.1]
  split
  · refine ⟨rfl, fun j hj => ?_⟩
    have hj : j < E.1 + 1 := hj
    show va_up E.2 E.1 _ j = va_up D.2 E.1 _ j
    unfold va_up
    by_cases e : j = E.1
    · rw [if_pos e, if_pos e]
    · rw [if_neg e, if_neg e]; exact h.2 j (by omega)
  · exact h
theorem et_fold {c : cS} : ∀ (m i : Nat) (E D : eS), eqv E D → eqv (foR (etA c) m i E) (foR (etA c) m i D) := by
  intro m
  induction m with
  | zero => intro i E D h; exact h
  | succ m ih => intro i E D h; exact ih (i + 1) _ _ (et_eqv h i)
theorem te_eqv (c : cS) (f t : Nat) (X Y : eS) : eqv (teA c f t X) (teA c f t Y) := et_fold _ _ _ _ ⟨rfl, fun j hj => by cases hj⟩
theorem tm_eqv : ∀ (n : Nat) (E D : eS), n ≤ E.1 → eqv E D → eqv (tmA n E) (tmA n D) := by
  intro n
  induction n with
  | zero => intro E D _ h; exact h
  | succ n ih =>
    intro E D hn h
    show eqv (if E.2 (E.1 - 1) = 0 then tmA n (E.1 - 1, E.2) else E) (if D.2 (D.1 - 1) = 0 then tmA n (D.1 - 1, D.2) else D)
    rw [← h.1, ← h.2 (E.1 - 1) (by omega)]
    split
    · exact ih _ _ (by show n ≤ E.1 - 1; omega) ⟨rfl, fun j hj => h.2 j (by have : j < E.1 - 1 := hj; omega)⟩
    · exact h
theorem tl_eqv (c : cS) (X Y : eS) : eqv (tlA c X) (tlA c Y) := by
  have h := te_eqv c 0 8 X Y
  unfold tlA
  rw [← h.1]
  exact tm_eqv _ _ _ (Nat.le_refl _) h
theorem tq_eqv (c : cS) (X Y : eS) : eqv (tqA c X) (tqA c Y) := te_eqv c 8 (8 + c.1) X Y
theorem ek_eqv {E D : eS} (h : eqv E D) : ekA E = ekA D := by
  funext i
  unfold ekA
  rw [← h.1]
  split
  · next q => exact h.2 i q
  · rfl
theorem en_eqv {E D : eS} (h : eqv E D) (f : Nat) : enL E f = enL D f := by unfold enL; rw [h.1, ek_eqv h]
theorem ba_eqv {E D E' D' : eS} (h : eqv E E') (k : eqv D D') : baA E D = baA E' D' := by
  unfold baA
  rw [h.1, k.1]
  congr 1
  funext b i
  unfold bkS
  rw [ek_eqv h, ek_eqv k]
theorem w1_eqv {B L Q B' L' Q' : eS} {δ : Nat} (hB : eqv B B') (hL : eqv L L') (hQ : eqv Q Q') : w1A B L Q δ = w1A B' L' Q' δ := by
  unfold w1A
  rw [ba_eqv hL hB, hB.1, hL.1, hQ.1, en_eqv hQ, en_eqv hL, en_eqv hL]
theorem wa_eqv {W V : wS} (h : eqv W V) (x : Nat) : eqv (wa1 W x) (wa1 V x) := by
  unfold wa1
  rw [← h.1]
  split
  · refine ⟨rfl, fun j hj => ?_⟩
    have hj : j < W.1 + 1 := hj
    show va_up W.2 W.1 x j = va_up V.2 W.1 x j
    unfold va_up
    by_cases e : j = W.1
    · rw [if_pos e, if_pos e]
    · rw [if_neg e, if_neg e]; exact h.2 j (by omega)
  · exact h
theorem waL_eqv : ∀ (l : List Nat) {W V : wS}, eqv W V → eqv (waL W l) (waL V l)
  | [], _, _, h => h
  | x :: l, _, _, h => waL_eqv l (wa_eqv h x)
theorem wa_960 {W : wS} (h : W.1 ≤ 960) (x : Nat) : (wa1 W x).1 ≤ 960 := by
  unfold wa1; split
  · next q => exact q
  · exact h
theorem waL_960 : ∀ (l : List Nat) {W : wS}, W.1 ≤ 960 → (waL W l).1 ≤ 960
  | [], _, h => h
  | x :: l, _, h => waL_960 l (wa_960 h x)
theorem foR_fl {α : Type} {f : α → Nat → α} : ∀ (n i : Nat) (a : α), foR f n i a = (List.range' i n).foldl f a
  | 0, i, a => rfl
  | n + 1, i, a => by
    rw [List.range'_succ, List.foldl_cons]
    exact foR_fl n (i + 1) (f a i)
theorem foR_if {α : Type} {f : α → Nat → α} {g : α → Nat → α} {b : Nat → Bool} (h : ∀ a i, f a i = if b i = true then g a i else a) : ∀ (n i : Nat) (a : α), foR f n i a = ((List.range' i n).filter b).foldl g a
  | 0, i, a => rfl
  | n + 1, i, a => by
    show foR f n (i + 1) (f a i) = _
    rw [foR_if h n (i + 1), h, List.range'_succ, List.filter_cons]
    split
    · rw [List.foldl_cons]
    · rfl
theorem flt_n {b : Nat → Bool} {n : Nat} : ∀ (m i : Nat), (List.range' i m).filter (fun j => decide (j < n) && b j) = (List.range' i (min m (n - i))).filter b := by
  intro m
  induction m with
  | zero => intro i; simp
  | succ m ih =>
    intro i
    rw [List.range'_succ, List.filter_cons, ih (i + 1)]
    by_cases h : i < n
    · rw [show min (m + 1) (n - i) = min m (n - (i + 1)) + 1 by omega, List.range'_succ, List.filter_cons]
      simp [h]
    · rw [show min (m + 1) (n - i) = 0 by omega, show min m (n - (i + 1)) = 0 by omega]
      simp [h]
def wjS (S : sS) (V : (wS × eS) × Nat) (j : Nat) : (wS × eS) × Nat := ((waL V.1.1 (w1A V.1.2 (tlA (S.1 j) e0A) (tqA (S.1 j) e0A) (j - V.2)), tlA (S.1 j) e0A), j + 1)
def fwJ (S : sS) (Y : xS × Nat) (j : Nat) : xS × Nat := ((waL Y.1.1 (w1A Y.1.2.1 (tlA (S.1 j) Y.1.2.2.1) (tqA (S.1 j) Y.1.2.2.2) (j - Y.2)), tlA (S.1 j) Y.1.2.1, tlA (S.1 j) Y.1.2.2.1, tqA (S.1 j) Y.1.2.2.2), j + 1)
theorem fl_map {α : Type} {g : α → Nat → α} {f : Nat → Nat} : ∀ (l : List Nat) (a : α), l.foldl (fun a k => g a (f k)) a = (l.map f).foldl g a
  | [], a => rfl
  | x :: l, a => by rw [List.foldl_cons, List.map_cons, List.foldl_cons]; exact fl_map l _
theorem wr_fl {c : cS} {S : sS} {F : fS} {X : xS} : wrA c S F X = ((apL (F.1, F.2.2.2.2)).foldl (fwJ S) (((0, X.1.2), tlA c X.2.1, X.2.2.1, X.2.2.2), 0)).1 := by
  unfold wrA apL
  rw [foR_fl, ← List.range_eq_range']
  congr 1
  exact fl_map (g := fwJ S) (f := F.1) _ _
def vre (Y : xS × Nat) (V : (wS × eS) × Nat) : Prop := eqv Y.1.1 V.1.1 ∧ eqv Y.1.2.1 V.1.2 ∧ Y.2 = V.2 ∧ Y.1.1.1 ≤ 960
theorem vre_s {S : sS} {Y : xS × Nat} {V : (wS × eS) × Nat} (h : vre Y V) (j : Nat) : vre (fwJ S Y j) (wjS S V j) := by
  obtain ⟨h1, h2, h3, h4⟩ := h
  refine ⟨?_, tl_eqv _ _ _, rfl, waL_960 _ h4⟩
  show eqv (waL Y.1.1 (w1A Y.1.2.1 (tlA (S.1 j) Y.1.2.2.1) (tqA (S.1 j) Y.1.2.2.2) (j - Y.2))) (waL V.1.1 (w1A V.1.2 (tlA (S.1 j) e0A) (tqA (S.1 j) e0A) (j - V.2)))
  rw [w1_eqv h2 (tl_eqv (S.1 j) Y.1.2.2.1 e0A) (tq_eqv (S.1 j) Y.1.2.2.2 e0A), h3]
  exact waL_eqv _ h1
theorem vre_f {S : sS} : ∀ (l : List Nat) (Y : xS × Nat) (V : (wS × eS) × Nat), vre Y V → vre (l.foldl (fwJ S) Y) (l.foldl (wjS S) V)
  | [], _, _, h => h
  | x :: l, Y, V, h => by rw [List.foldl_cons, List.foldl_cons]; exact vre_f l _ _ (vre_s h x)
theorem fr_fl {P : pT} {H : Nat → Nat} {S : sS} : ∀ (n i : Nat) (Y : yS), (foR (frS P H S) n i Y).1 = foR (apS (iFA P H)) n i Y.1 ∧ (foR (frS P H S) n i Y).2 = ((List.range' i n).filter (iFA P H)).foldl (wjS S) Y.2 := by
  intro n
  induction n with
  | zero => intro i Y; exact ⟨rfl, rfl⟩
  | succ n ih =>
    intro i Y
    have h := ih (i + 1) (frS P H S Y i)
    show (foR (frS P H S) n (i + 1) (frS P H S Y i)).1 = foR (apS (iFA P H)) n (i + 1) (apS (iFA P H) Y.1 i) ∧ (foR (frS P H S) n (i + 1) (frS P H S Y i)).2 = _
    rw [h.1, h.2, List.range'_succ, List.filter_cons]
    unfold frS
    split
    · next q =>
      refine ⟨by unfold apS; rw [if_pos q], ?_⟩
      rw [List.foldl_cons]; rfl
    · next q => exact ⟨by unfold apS; rw [if_neg q], rfl⟩
theorem ap_in {p r : (Nat → Nat) × Nat} (h : apL p = apL r) : p.2 = r.2 ∧ ∀ k, k < p.2 → p.1 k = r.1 k := by
  have hl := congrArg List.length h
  unfold apL at hl h
  rw [List.length_map, List.length_map, List.length_range, List.length_range] at hl
  refine ⟨hl, fun k hk => ?_⟩
  have e := congrArg (fun l => l[k]?) h
  simp only [List.getElem?_map] at e
  rw [List.getElem?_range hk, List.getElem?_range (by omega)] at e
  simpa using e
/-- FRAMES and bytes of both -/
theorem fm_eq {P : pT} {S : sS} {H : Nat → Nat} {F : fS} {X : xS} {c : cS} (hn : pn P ≤ 30) (hH : ∀ j, j < pn P → (H j = 0 ↔ hN S j = 0)) (hE : ∀ j, iFA P (hN S) j = true → S.2.1 j = true) : (gaA P S F).2.2.2.2 = (foR (frS P H S) (pn P) 0 (y0A c)).1.2 ∧ (∀ k, k < (gaA P S F).2.2.2.2 → (gaA P S F).1 k = (foR (frS P H S) (pn P) 0 (y0A c)).1.1 k) ∧ eqv (wrA c S (gaA P S F) X).1 (foR (frS P H S) (pn P) 0 (y0A c)).2.1.1 ∧ (wrA c S (gaA P S F) X).1.1 ≤ 960 := by
  have hg := (ga_ok (F := F) hE).2
  generalize gaA P S F = G at hg ⊢
  have hiF : iFA P H = iFA P (hN S) := funext (fun i => iFA_cg hH i)
  have hl : (List.range' 0 30).filter (fun j => decide (j < pn P) && iFA P (hN S) j) = (List.range' 0 (pn P)).filter (iFA P H) := by
    rw [flt_n, hiF, show min 30 (pn P - 0) = pn P by omega]
  have hf := fr_fl (P := P) (H := H) (S := S) (pn P) 0 (y0A c)
  generalize foR (frS P H S) (pn P) 0 (y0A c) = Y at hf ⊢
  have ha : apL Y.1 = (List.range' 0 (pn P)).filter (iFA P H) := by
    rw [hf.1, ap_fold]; rfl
  rw [hl, ← ha] at hg
  have hp := ap_in hg
  refine ⟨hp.1, hp.2, ?_⟩
  have hw : wrA c S G X = _ := wr_fl
  rw [hg, ha] at hw
  rw [hw, hf.2]
  have := vre_f (S := S) ((List.range' 0 (pn P)).filter (iFA P H)) (((0, X.1.2), tlA c X.2.1, X.2.2.1, X.2.2.2), 0) (y0A c).2 ⟨⟨rfl, fun j hj => by cases hj⟩, tl_eqv _ _ _, rfl, Nat.zero_le _⟩
  exact ⟨this.1, this.2.2.2⟩

/-! what an OP makes of less is less -/
theorem kl_w {T : tT} (hO : tOk T) {a b : Nat} (h : kle T a b) (hb : whK b = true) : whK a = true := by
  have hb' := whK_e hb
  rcases h with e | e | ⟨p1, _, _⟩
  · rw [e]; exact hb
  · exact absurd e hb'.1
  · have := rfK_e hO p1
    simp [whK]; omega
theorem kl_c {T : tT} (hO : tOk T) {a b : Nat} (h : kle T a b) (h1 : ¬ b = 0) (h2 : ¬ b = 4) (h3 : ¬ (100 ≤ b ∧ b < 108)) : a = b := by
  rcases h with e | e | ⟨_, p2, _⟩
  · exact e
  · exact absurd e h1
  · have := rfK_e hO p2; omega
theorem kl_d {T : tT} (hO : tOk T) {a b : Nat} (h : kle T a b) (h2 : ¬ a = 4) (h3 : ¬ (100 ≤ a ∧ a < 108)) : b = a ∨ b = 0 := by
  rcases h with e | e | ⟨p1, _, _⟩
  · exact Or.inl e.symm
  · exact Or.inr e
  · have := rfK_e hO p1; omega
theorem kl_rf {T : tT} {a b : Nat} (h : kle T a b) (hb : rfK T b = true) : rfK T a = true := by
  rcases h with e | e | ⟨p1, _, _⟩
  · rw [e]; exact hb
  · exact absurd e (rf_n0 hb)
  · exact p1
theorem kl_gf {T : tT} (hO : tOk T) {a b q : Nat} (hq : q < tc T) (h : kle T a b) (hb : rfK T b = true) (hg : gfA T b (100 + q) = true) : gfA T a (100 + q) = true := by
  have hx : thK T (100 + q) = true := by simp [thK, hq]
  rcases h with e | e | ⟨p1, p2, p3⟩
  · rw [e]; exact hg
  · exact absurd e (rf_n0 hb)
  · rcases p3 with e | ⟨e1, e2, e3⟩
    · subst e; unfold gfA; simp [hx, rfK]
    · have h1 := (thK_n p1 e1).1
      have h2 := (thK_n p2 e2).1
      have hb2 := (thK_n p2 e2).2
      have hn : tf T q = true ∨ neA T (a - 100) q = q := by
        unfold gfA at hg
        simp [hx, p2, e2] at hg
        rcases hg with r | r | r
        · right
          have : b - 100 = q := by omega
          rw [this] at e3; exact e3
        · exact Or.inl r
        · exact Or.inr (ne_t hO h1 h2 hq e3 r)
      unfold gfA
      simp [hx, p1, e1]
      rcases hn with r | r
      · exact Or.inr (Or.inl r)
      · exact Or.inr (Or.inr r)
theorem kA_mo {T : tT} {c e : cS} (h : cle T c e) {p : Nat} (hp : p < 8) : kle T (kA c p) (kA e p) := by rw [kA_8 hp, kA_8 hp]; exact h.2 p (by omega)
theorem tp_mo {T : tT} {c e : cS} (h : cle T c e) {d : Nat} (hd : d < c.1) : kle T (tpA c d) (tpA e d) := by
  rw [tp_c hd, tp_c (by rw [← h.1]; exact hd), ← h.1]; exact h.2 _ (by omega)
theorem lo_mo {T : tT} (hO : tOk T) {a b x y : Nat} (h1 : kle T a x) (h2 : kle T b y) (h : loK x y = true) : loK a b = true := by
  have := loK_e h
  have e1 := kl_c hO h1 (by omega) (by omega) (by omega)
  have e2 := kl_c hO h2 (by omega) (by omega) (by omega)
  rw [e1, e2]; exact h
theorem su_mo {T : tT} (hO : tOk T) {o q : Nat} (ho : o ≤ 20) {c e : cS} (h : cle T c e) (ht : tkA o ≤ c.1) (h8 : (o = 3 ∨ o = 4 ∨ o = 5 ∨ o = 6 ∨ o = 14 ∨ o = 15) → q < 8) (h7 : (o = 4 ∨ o = 6) → q < 7) (hty : o = 15 → q < tc T) (hs : suA T o q e = true) : suA T o q c = true := by
  have hc : o = 0 ∨ o = 1 ∨ o = 2 ∨ o = 3 ∨ o = 4 ∨ o = 5 ∨ o = 6 ∨ o = 7 ∨ o = 8 ∨ o = 9 ∨ o = 10 ∨ o = 11 ∨ o = 12 ∨ o = 13 ∨ o = 14 ∨ o = 15 ∨ o = 16 ∨ o = 17 ∨ o = 18 ∨ o = 19 ∨ o = 20 := by omega
  rcases hc with rfl | rfl | rfl | rfl | rfl | rfl | rfl | rfl | rfl | rfl | rfl | rfl | rfl | rfl | rfl | rfl | rfl | rfl | rfl | rfl | rfl <;> simp only [tkA, List.getD_cons_zero, List.getD_cons_succ] at ht
  · exact su0 ..
  · exact su1 ..
  · exact su2 ..
  · rw [su3] at hs ⊢; exact kl_w hO (kA_mo h (h8 (by decide))) hs
  · rw [su4] at hs ⊢
    have := h7 (by decide)
    exact lo_mo hO (kA_mo h (by omega)) (kA_mo h (by omega)) hs
  · rw [su5] at hs ⊢; exact kl_w hO (tp_mo h (by omega)) hs
  · rw [su6] at hs ⊢; exact lo_mo hO (tp_mo h (by omega)) (tp_mo h (by omega)) hs
  · rw [su7] at hs ⊢; exact kl_w hO (tp_mo h (by omega)) hs
  · rw [su8] at hs ⊢
    simp only [Bool.or_eq_true, Bool.and_eq_true] at hs ⊢
    rcases hs with hs | hs
    · exact Or.inl (lo_mo hO (tp_mo h (by omega)) (tp_mo h (by omega)) hs)
    · exact Or.inr ⟨kl_w hO (tp_mo h (by omega)) hs.1, kl_w hO (tp_mo h (by omega)) hs.2⟩
  · rw [su9] at hs ⊢; exact kl_w hO (tp_mo h (by omega)) hs
  · rw [su10] at hs ⊢
    simp only [Bool.and_eq_true, decide_eq_true_eq] at hs ⊢
    have e1 := kl_c hO (tp_mo h (show 1 < c.1 by omega)) (by omega) (by omega) (by omega)
    have e2 := kl_c hO (tp_mo h (show 0 < c.1 by omega)) (by omega) (by omega) (by omega)
    omega
  · rw [su11] at hs ⊢
    simp only [Bool.and_eq_true] at hs ⊢
    exact ⟨lo_mo hO (tp_mo h (by omega)) (tp_mo h (by omega)) hs.1, lo_mo hO (tp_mo h (by omega)) (tp_mo h (by omega)) hs.2⟩
  · exact su12 ..
  · rw [su13] at hs ⊢
    have hb : 200 ≤ tpA e 0 := by simp [bgK] at hs; omega
    have e2 := kl_c hO (tp_mo h (show 0 < c.1 by omega)) (by omega) (by omega) (by omega)
    rw [e2]; exact hs
  · rw [su14] at hs ⊢; exact kl_rf (tp_mo h (by omega)) hs
  · rw [su15] at hs ⊢
    simp only [Bool.and_eq_true] at hs ⊢
    exact ⟨kl_rf (tp_mo h (by omega)) hs.1, kl_gf hO (hty rfl) (tp_mo h (by omega)) hs.1 hs.2⟩
  · rw [su16] at hs ⊢
    simp only [decide_eq_true_eq] at hs ⊢
    have e2 := kl_c hO (tp_mo h (show 0 < c.1 by omega)) (by omega) (by omega) (by omega)
    omega
  · rw [su17] at hs ⊢
    simp only [Bool.and_eq_true] at hs ⊢
    exact ⟨kl_rf (tp_mo h (by omega)) hs.1, kl_rf (tp_mo h (by omega)) hs.2⟩
  · exact su18 ..
  · exact su19 ..
  · rw [su20] at hs ⊢; exact kl_rf (tp_mo h (by omega)) hs
theorem dr_mo {T : tT} {c e : cS} (h : cle T c e) (m : Nat) : cle T (drA c m) (drA e m) := ⟨by show c.1 - m = e.1 - m; rw [h.1], fun j hj => h.2 j (by have : j < 8 + (c.1 - m) := hj; omega)⟩
theorem ps_mo {T : tT} {c e : cS} (h : cle T c e) {x y : Nat} (hk : kle T x y) (h6 : c.1 < 6) : cle T (psA c x) (psA e y) := by
  have e1 : psA c x = (c.1 + 1, va_up c.2 (8 + c.1) x) := if_pos h6
  have e2 : psA e y = (c.1 + 1, va_up e.2 (8 + c.1) y) := by unfold psA; rw [← h.1, if_pos h6]
  rw [e1, e2]
  refine ⟨rfl, fun j hj => ?_⟩
  have hj' : j < 8 + (c.1 + 1) := hj
  show kle T (if j = 8 + c.1 then x else c.2 j) (if j = 8 + c.1 then y else e.2 j)
  by_cases q : j = 8 + c.1
  · rw [if_pos q, if_pos q]; exact hk
  · rw [if_neg q, if_neg q]; exact h.2 j (by omega)
theorem so_mo {T : tT} (hO : tOk T) {c e : cS} (h : cle T c e) (pc : prC c) (pe : prC e) {p x y : Nat} (hp : p < 8) (hk : kle T x y) : cle T (soA c p x) (soA e p y) := by
  refine ⟨by rw [soA_1, soA_1]; exact h.1, fun j hj => ?_⟩
  rw [soA_1] at hj
  rw [soA_8 hp, soA_8 hp]
  by_cases q : j = p
  · rw [if_pos q, if_pos q]; exact hk
  · rw [if_neg q, if_neg q]
    by_cases qe : (e.2 p = 2 ∧ p + 1 < 8 ∧ j = p + 1) ∨ (e.2 p = 3 ∧ 0 < p ∧ j = p - 1)
    · rw [if_pos qe]; exact kle_0 _
    · rw [if_neg qe]
      by_cases qc : (c.2 p = 2 ∧ p + 1 < 8 ∧ j = p + 1) ∨ (c.2 p = 3 ∧ 0 < p ∧ j = p - 1)
      · rw [if_pos qc]
        have hjp := h.2 p (by omega)
        have hjj := h.2 j hj
        have hz : e.2 j = 0 := by
          rcases qc with ⟨a1, a2, a3⟩ | ⟨a1, a2, a3⟩
          · have b1 := (pc.1 p (by omega) (by omega)).mp a1
            rw [← a3] at b1
            rw [a1] at hjp
            rw [b1] at hjj
            have c1 := kl_d hO hjp (by decide) (by omega)
            have c2 := kl_d hO hjj (by decide) (by omega)
            have b2 := pe.1 p (by rw [← h.1]; omega) (by omega)
            rw [← a3] at b2
            rcases c2 with c2 | c2
            · have := b2.mpr c2
              exact absurd (Or.inl ⟨this, a2, a3⟩) qe
            · exact c2
          · have b1 := pc.1 (p - 1) (by omega) (by omega)
            rw [show p - 1 + 1 = p by omega] at b1
            have b1 := b1.mpr a1
            rw [← a3] at b1
            rw [a1] at hjp
            rw [b1] at hjj
            have c2 := kl_d hO hjj (by decide) (by omega)
            have b2 := pe.1 (p - 1) (by rw [← h.1]; omega) (by omega)
            rw [show p - 1 + 1 = p by omega, ← a3] at b2
            rcases c2 with c2 | c2
            · exact absurd (Or.inr ⟨b2.mp c2, a2, a3⟩) qe
            · exact c2
        rw [hz]; exact kle_0 _
      · rw [if_neg qc]; exact h.2 j hj
theorem sl_mo {T : tT} (hO : tOk T) {c e : cS} (h : cle T c e) (pc : prC c) (pe : prC e) {p : Nat} (hp : p < 7) : cle T (slA c p) (slA e p) := by
  have h1 := so_mo hO h pc pe (p := p) (x := 0) (y := 0) (by omega) (kle_r _)
  have h2 := so_mo hO h1 (prC_so pc (by omega) (by decide) (by decide)) (prC_so pe (by omega) (by decide) (by decide)) (p := p + 1) (x := 0) (y := 0) (by omega) (kle_r _)
  refine ⟨by rw [slA_1, slA_1]; exact h.1, fun j hj => ?_⟩
  rw [slA_1] at hj
  rw [slA_8 hp, slA_8 hp]
  by_cases q : j = p
  · rw [if_pos q, if_pos q]; exact kle_r _
  · rw [if_neg q, if_neg q]
    by_cases q2 : j = p + 1
    · rw [if_pos q2, if_pos q2]; exact kle_r _
    · rw [if_neg q2, if_neg q2]
      exact h2.2 j (by rw [soA_1, soA_1]; exact hj)
theorem rp_mo {T : tT} (hO : tOk T) {c e : cS} (h : cle T c e) {x y : Nat} (hx : 200 ≤ x) : cle T (rpA c x y) (rpA e x y) := by
  refine ⟨h.1, fun j hj => ?_⟩
  have hj' : j < 8 + c.1 := hj
  have hk := h.2 j hj'
  show kle T (if c.2 j = x then y else c.2 j) (if e.2 j = x then y else e.2 j)
  by_cases q : e.2 j = x
  · have := kl_c hO hk (by omega) (by omega) (by omega)
    rw [if_pos q, if_pos (by omega)]; exact kle_r _
  · rw [if_neg q]
    by_cases q2 : c.2 j = x
    · have := kl_d hO hk (by omega) (by omega)
      have hz : e.2 j = 0 := by omega
      rw [hz]; exact kle_0 _
    · rw [if_neg q2]; exact hk
theorem wk_mo {P : pT} {T : tT} (hO : tOk T) {o q k t : Nat} (ho : o ≤ 20) {c e : cS} (h : cle T c e) (gc : gC P T c) (ge : gC P T e) (ht : tkA o ≤ c.1) (hg : c.1 - tkA o + gvA o ≤ 6) (h8 : (o = 3 ∨ o = 4 ∨ o = 5 ∨ o = 6 ∨ o = 14 ∨ o = 15) → q < 8) (h7 : (o = 4 ∨ o = 6) → q < 7) (hsc : suA T o q c = true) (hse : suA T o q e = true) : cle T (wkA o q k t c) (wkA o q k t e) := by
  have hl : ∀ m, (drA c m).1 = c.1 - m := fun _ => rfl
  have hc : o = 0 ∨ o = 1 ∨ o = 2 ∨ o = 3 ∨ o = 4 ∨ o = 5 ∨ o = 6 ∨ o = 7 ∨ o = 8 ∨ o = 9 ∨ o = 10 ∨ o = 11 ∨ o = 12 ∨ o = 13 ∨ o = 14 ∨ o = 15 ∨ o = 16 ∨ o = 17 ∨ o = 18 ∨ o = 19 ∨ o = 20 := by omega
  have d := fun m => dr_mo h m
  have h1 := h.1
  rcases hc with rfl | rfl | rfl | rfl | rfl | rfl | rfl | rfl | rfl | rfl | rfl | rfl | rfl | rfl | rfl | rfl | rfl | rfl | rfl | rfl | rfl <;> simp only [tkA, gvA, List.getD_cons_zero, List.getD_cons_succ] at ht hg
  · rw [wk0, wk0]; exact ps_mo (d 0) (kle_r _) (by rw [hl]; omega)
  · rw [wk1, wk1]; exact ps_mo (ps_mo (d 0) (kle_r _) (by rw [hl]; omega)) (kle_r _) (by rw [psA_1 (by rw [hl]; omega), hl]; omega)
  · rw [wk2, wk2]; exact ps_mo (d 0) (kle_r _) (by rw [hl]; omega)
  · rw [wk3, wk3]; exact ps_mo (d 0) (kA_mo (d 0) (h8 (by decide))) (by rw [hl]; omega)
  · rw [wk4, wk4]; exact ps_mo (ps_mo (d 0) (kle_r _) (by rw [hl]; omega)) (kle_r _) (by rw [psA_1 (by rw [hl]; omega), hl]; omega)
  · rw [wk5, wk5]
    rw [su5] at hsc hse
    exact so_mo hO (d 1) (gC_dr gc (Or.inr ⟨ht, (whK_e hsc).2.2⟩)).2.2 (gC_dr ge (Or.inr ⟨by omega, (whK_e hse).2.2⟩)).2.2 (h8 (by decide)) (tp_mo h (by omega))
  · rw [wk6, wk6]
    rw [su6] at hsc hse
    have a1 := loK_e hsc
    have a2 := loK_e hse
    exact sl_mo hO (d 2) (gC_dr (m := 2) gc (Or.inr ⟨ht, by show tpA c 1 ≠ 3; omega⟩)).2.2 (gC_dr (m := 2) ge (Or.inr ⟨by omega, by show tpA e 1 ≠ 3; omega⟩)).2.2 (h7 (by decide))
  · rw [wk7, wk7]; exact d 1
  · rw [wk8, wk8]; exact d 2
  · rw [wk9, wk9]
    have := tp_mo h (show 0 < c.1 by omega)
    exact ps_mo (ps_mo (d 1) this (by rw [hl]; omega)) this (by rw [psA_1 (by rw [hl]; omega), hl]; omega)
  · rw [wk10, wk10]; exact ps_mo (d 2) (kle_r _) (by rw [hl]; omega)
  · rw [wk11, wk11]; exact ps_mo (ps_mo (d 4) (kle_r _) (by rw [hl]; omega)) (kle_r _) (by rw [psA_1 (by rw [hl]; omega), hl]; omega)
  · rw [wk12, wk12]; exact ps_mo (rp_mo hO (d 0) (by omega)) (kle_r _) (by show c.1 - 0 < 6; omega)
  · rw [wk13, wk13]
    rw [su13] at hse
    have hb : 200 ≤ tpA e 0 := by simp [bgK] at hse; omega
    have e2 := kl_c hO (tp_mo h (show 0 < c.1 by omega)) (by omega) (by omega) (by omega)
    rw [e2]
    exact rp_mo hO (d 1) hb
  · rw [wk14, wk14]; exact ps_mo (d 1) (kle_r _) (by rw [hl]; omega)
  · rw [wk15, wk15]; exact d 1
  · rw [wk16, wk16]; exact d 1
  · rw [wk17, wk17]; exact d 2
  · rw [wk18, wk18]; exact d 0
  · rw [wk19, wk19]; exact d 0
  · rw [wk20, wk20]; exact d 1
theorem wk_ty {o q k t t' : Nat} {c : cS} (h : ¬ o = 13) : wkA o q k t c = wkA o q k t' c := by unfold wkA; simp [h]
theorem ps_mon {P : pT} {T : tT} (hG : pG P T) {k : Nat} {c e : cS} (h : cle T c e) (gc : gC P T c) (ge : gC P T e) (ht : tkA (opA P k) ≤ c.1) (hg : c.1 - tkA (opA P k) + gvA (opA P k) ≤ 6) : cle T (psC P T k c) (psC P T k e) := by
  have ho := op_20 hG k
  have h8 : (opA P k = 3 ∨ opA P k = 4 ∨ opA P k = 5 ∨ opA P k = 6 ∨ opA P k = 14 ∨ opA P k = 15) → nuN P k < 8 := fun q => (hG.2.2.2.2.1.1 k q).2
  have h7 := hG.2.2.2.2.1.2.1 k
  have hty : opA P k = 15 → nuN P k < tc T := fun q => (hG.2.2.2.2.2.1 k (by omega)).2
  have he1 := (psC_ok hG ge (k := k) (by rw [← h.1]; exact ht) (by rw [← h.1]; exact hg)).2
  have hc1 := (psC_ok hG gc (k := k) ht hg).2
  by_cases hse : suA T (opA P k) (nuN P k) e = true
  · have hsc := su_mo hG.1 ho h ht h8 h7 hty hse
    unfold psC paA
    rw [if_pos hse, if_pos hsc]
    have hw := wk_mo (P := P) hG.1 (k := k) (t := tyA P c) ho h gc ge ht hg h8 h7 hsc hse
    by_cases e13 : opA P k = 13
    · have : tyA P e = tyA P c := by
        rw [e13] at hse ht
        have ht : 1 ≤ c.1 := ht
        rw [su13] at hse
        have hb : 200 ≤ tpA e 0 := by simp [bgK] at hse; omega
        have e2 := kl_c hG.1 (tp_mo h (show 0 < c.1 by omega)) (by omega) (by omega) (by omega)
        unfold tyA; rw [e2]
      rw [this]; exact hw
    · rw [wk_ty (t' := tyA P c) (c := e) e13]; exact hw
  · have e1 : psC P T k e = (e.1 - tkA (opA P k) + gvA (opA P k), fun _ => 0) := by unfold psC paA; rw [if_neg hse]
    refine ⟨by rw [he1, hc1, h.1], fun j _ => ?_⟩
    rw [e1]; exact kle_0 _
theorem hd_mo {T : tT} {c e : cS} (h : cle T c e) (x : Nat) : cle T (1, va_up c.2 8 x) (1, va_up e.2 8 x) := by
  refine ⟨rfl, fun j hj => ?_⟩
  have hj' : j < 8 + 1 := hj
  show kle T (if j = 8 then x else c.2 j) (if j = 8 then x else e.2 j)
  by_cases q : j = 8
  · rw [if_pos q, if_pos q]; exact kle_r _
  · rw [if_neg q, if_neg q]; exact h.2 j (by omega)

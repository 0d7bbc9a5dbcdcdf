/-! the class as a whole -/
def ofR (l h : Nat) (σ σ' : mc_G) : Prop := ∀ b, (b < l ∨ h < b) → σ' b = σ b
theorem ofR.rf {l h : Nat} {σ : mc_G} : ofR l h σ σ := fun _ _ => rfl
theorem ofR.tr {l h : Nat} {σ σ1 σ2 : mc_G} (a : ofR l h σ σ1) (k : ofR l h σ1 σ2) : ofR l h σ σ2 := fun b h1 => (k b h1).trans (a b h1)
theorem ofR.wi {l h l' h' : Nat} {σ σ' : mc_G} (a : ofR l h σ σ') (h1 : l' ≤ l) (h2 : h ≤ h') : ofR l' h' σ σ' := fun b hb => a b (by omega)
theorem offC.r {a : Nat} {σ σ' : mc_G} (h : offC a σ σ') : ofR a (a + 1) σ σ' := fun b hb => h b (by omega) (by omega)
theorem offS.r {σ σ' : mc_G} (h : offS σ σ') : ofR 13 15 σ σ' := fun b hb => h b (by omega) (by omega) (by omega)
theorem offT.r {σ σ' : mc_G} (h : offT σ σ') : ofR 17 85 σ σ' := fun b hb => h b (by omega) (by omega)
theorem offF.r {σ σ' : mc_G} (h : offF σ σ') : ofR 86 153 σ σ' := fun b hb => h b (by omega) (by omega)
theorem offW.r {σ σ' : mc_G} (h : offW σ σ') : ofR 154 161 σ σ' := h
theorem offJ.r {σ σ' : mc_G} (h : offJ σ σ') : ofR 162 166 σ σ' := h
theorem offY.r {σ σ' : mc_G} (h : offY σ σ') : ofR 1 3 σ σ' := h
theorem offP.r {σ σ' : mc_G} (h : offP σ σ') : ofR 4 10 σ σ' := h
theorem cTyp.r {l h : Nat} {T : tT} {σ σ' : mc_G} (c : cTyp T σ) (o : ofR l h σ σ') (d : h < 1 ∨ 3 < l) : cTyp T σ' := c.to (fun b h1 h2 => o b (by omega))
theorem cCode.r {l h : Nat} {P : pT} {σ σ' : mc_G} (c : cCode P σ) (o : ofR l h σ σ') (d : h < 4 ∨ 10 < l) : cCode P σ' := c.to (fun b h1 h2 => o b (by omega))
theorem cCel.r {l h a : Nat} {c : cS} {σ σ' : mc_G} (k : cCel a c σ) (o : ofR l h σ σ') (d : h < a ∨ a + 1 < l) : cCel a c σ' := k.to (o a (by omega)) (o (a + 1) (by omega))
theorem cEnt.r {l h a : Nat} {c : eS} {σ σ' : mc_G} (k : cEnt a c σ) (o : ofR l h σ σ') (d : h < a ∨ a + 1 < l) : cEnt a c σ' := k.to (o a (by omega)) (o (a + 1) (by omega))
theorem cSiz.r {l h : Nat} {Z : zS} {σ σ' : mc_G} (k : cSiz Z σ) (o : ofR l h σ σ') (d : h < 13 ∨ 15 < l) : cSiz Z σ' :=
  ⟨fun i hi => by rw [o 14 (by omega), o 15 (by omega)]; exact k.1 i hi, by rw [o 13 (by omega)]; exact k.2⟩
theorem cSts.r {l h : Nat} {S : sS} {σ σ' : mc_G} (k : cSts S σ) (o : ofR l h σ σ') (d : h < 17 ∨ 85 < l) : cSts S σ' :=
  ⟨fun i hi => ⟨(k.1 i hi).1.r o (by omega), by rw [o 82 (by omega)]; exact (k.1 i hi).2.1, by rw [o 83 (by omega)]; exact (k.1 i hi).2.2⟩, by rw [o 17 (by omega)]; exact k.2.1, k.2.2.r o (by omega)⟩
theorem cFrm.r {l h : Nat} {F : fS} {σ σ' : mc_G} (k : cFrm F σ) (o : ofR l h σ σ') (d : h < 86 ∨ 153 < l) : cFrm F σ' :=
  ⟨fun i hi => ⟨by rw [o 87 (by omega)]; exact (k.1 i hi).1, by rw [o 88 (by omega)]; exact (k.1 i hi).2.1, by rw [o 89 (by omega)]; exact (k.1 i hi).2.2.1, (k.1 i hi).2.2.2.r o (by omega)⟩, by rw [o 86 (by omega)]; exact k.2.1, k.2.2⟩
theorem cWrt.r {l h : Nat} {X : xS} {σ σ' : mc_G} (k : cWrt X σ) (o : ofR l h σ σ') (d : h < 154 ∨ 161 < l) : cWrt X σ' :=
  ⟨k.1.to (o _ (by omega)) (o _ (by omega)), k.2.1.r o (by omega), k.2.2.1.r o (by omega), k.2.2.2.r o (by omega)⟩
theorem cJud.r {l h : Nat} {J : jS} {σ σ' : mc_G} (k : cJud J σ) (o : ofR l h σ σ') (d : h < 162 ∨ 166 < l) : cJud J σ' :=
  ⟨k.1.r o (by omega), ⟨_, k.2.1.choose_spec.r o (by omega)⟩, by rw [o 162 (by omega)]; exact k.2.2⟩
theorem cSta.r {l h : Nat} {σ σ' : mc_G} (k : cSta σ) (o : ofR l h σ σ') (d : h < 1000) : cSta σ' := fun q hq => by rw [o 1000 (by omega), o 1001 (by omega)]; exact k q hq
/-- TYPES, the program, the beginning, STATES, FRAMES, bytes; made or not; the FAULT -/
abbrev kS : Type := tT × pT × cS × sS × fS × xS × Bool × Nat
def cCls (K : kS) (σ : mc_G) : Prop := cTyp K.1 σ ∧ cCode K.2.1 σ ∧ cCel 11 K.2.2.1 σ ∧ (∃ Z, cSiz Z σ) ∧ cSts K.2.2.2.1 σ ∧ cFrm K.2.2.2.2.1 σ ∧ cWrt K.2.2.2.2.2.1 σ ∧ (∃ J, cJud J σ) ∧ σ 0 8 = bI K.2.2.2.2.2.2.1 ∧ σ 0 9 = nI K.2.2.2.2.2.2.2 ∧ cSta σ
theorem cCls.typ {K : kS} {T : tT} {σ σ' : mc_G} (h : cCls K σ) (o : ofR 1 3 σ σ') (c : cTyp T σ') : cCls (T, K.2) σ' :=
  ⟨c, h.2.1.r o (by decide), h.2.2.1.r o (by decide), ⟨_, h.2.2.2.1.choose_spec.r o (by decide)⟩, h.2.2.2.2.1.r o (by decide), h.2.2.2.2.2.1.r o (by decide), h.2.2.2.2.2.2.1.r o (by decide), ⟨_, h.2.2.2.2.2.2.2.1.choose_spec.r o (by decide)⟩, by rw [o 0 (by decide)]; exact h.2.2.2.2.2.2.2.2.1, by rw [o 0 (by decide)]; exact h.2.2.2.2.2.2.2.2.2.1, h.2.2.2.2.2.2.2.2.2.2.r o (by decide)⟩
theorem cCls.cod {K : kS} {P : pT} {σ σ' : mc_G} (h : cCls K σ) (o : ofR 4 10 σ σ') (c : cCode P σ') : cCls (K.1, P, K.2.2) σ' :=
  ⟨h.1.r o (by decide), c, h.2.2.1.r o (by decide), ⟨_, h.2.2.2.1.choose_spec.r o (by decide)⟩, h.2.2.2.2.1.r o (by decide), h.2.2.2.2.2.1.r o (by decide), h.2.2.2.2.2.2.1.r o (by decide), ⟨_, h.2.2.2.2.2.2.2.1.choose_spec.r o (by decide)⟩, by rw [o 0 (by decide)]; exact h.2.2.2.2.2.2.2.2.1, by rw [o 0 (by decide)]; exact h.2.2.2.2.2.2.2.2.2.1, h.2.2.2.2.2.2.2.2.2.2.r o (by decide)⟩
theorem cCls.beg {K : kS} {c : cS} {σ σ' : mc_G} (h : cCls K σ) (o : ofR 11 12 σ σ') (k : cCel 11 c σ') : cCls (K.1, K.2.1, c, K.2.2.2) σ' :=
  ⟨h.1.r o (by decide), h.2.1.r o (by decide), k, ⟨_, h.2.2.2.1.choose_spec.r o (by decide)⟩, h.2.2.2.2.1.r o (by decide), h.2.2.2.2.2.1.r o (by decide), h.2.2.2.2.2.2.1.r o (by decide), ⟨_, h.2.2.2.2.2.2.2.1.choose_spec.r o (by decide)⟩, by rw [o 0 (by decide)]; exact h.2.2.2.2.2.2.2.2.1, by rw [o 0 (by decide)]; exact h.2.2.2.2.2.2.2.2.2.1, h.2.2.2.2.2.2.2.2.2.2.r o (by decide)⟩
theorem cCls.siz {K : kS} {Z : zS} {σ σ' : mc_G} (h : cCls K σ) (o : ofR 13 15 σ σ') (k : cSiz Z σ') : cCls K σ' :=
  ⟨h.1.r o (by decide), h.2.1.r o (by decide), h.2.2.1.r o (by decide), ⟨_, k⟩, h.2.2.2.2.1.r o (by decide), h.2.2.2.2.2.1.r o (by decide), h.2.2.2.2.2.2.1.r o (by decide), ⟨_, h.2.2.2.2.2.2.2.1.choose_spec.r o (by decide)⟩, by rw [o 0 (by decide)]; exact h.2.2.2.2.2.2.2.2.1, by rw [o 0 (by decide)]; exact h.2.2.2.2.2.2.2.2.2.1, h.2.2.2.2.2.2.2.2.2.2.r o (by decide)⟩
theorem cCls.sts {K : kS} {S : sS} {σ σ' : mc_G} (h : cCls K σ) (o : ofR 17 85 σ σ') (k : cSts S σ') : cCls (K.1, K.2.1, K.2.2.1, S, K.2.2.2.2) σ' :=
  ⟨h.1.r o (by decide), h.2.1.r o (by decide), h.2.2.1.r o (by decide), ⟨_, h.2.2.2.1.choose_spec.r o (by decide)⟩, k, h.2.2.2.2.2.1.r o (by decide), h.2.2.2.2.2.2.1.r o (by decide), ⟨_, h.2.2.2.2.2.2.2.1.choose_spec.r o (by decide)⟩, by rw [o 0 (by decide)]; exact h.2.2.2.2.2.2.2.2.1, by rw [o 0 (by decide)]; exact h.2.2.2.2.2.2.2.2.2.1, h.2.2.2.2.2.2.2.2.2.2.r o (by decide)⟩
theorem cCls.frm {K : kS} {F : fS} {σ σ' : mc_G} (h : cCls K σ) (o : ofR 86 153 σ σ') (k : cFrm F σ') : cCls (K.1, K.2.1, K.2.2.1, K.2.2.2.1, F, K.2.2.2.2.2) σ' :=
  ⟨h.1.r o (by decide), h.2.1.r o (by decide), h.2.2.1.r o (by decide), ⟨_, h.2.2.2.1.choose_spec.r o (by decide)⟩, h.2.2.2.2.1.r o (by decide), k, h.2.2.2.2.2.2.1.r o (by decide), ⟨_, h.2.2.2.2.2.2.2.1.choose_spec.r o (by decide)⟩, by rw [o 0 (by decide)]; exact h.2.2.2.2.2.2.2.2.1, by rw [o 0 (by decide)]; exact h.2.2.2.2.2.2.2.2.2.1, h.2.2.2.2.2.2.2.2.2.2.r o (by decide)⟩
theorem cCls.wrt {K : kS} {X : xS} {σ σ' : mc_G} (h : cCls K σ) (o : ofR 154 161 σ σ') (k : cWrt X σ') : cCls (K.1, K.2.1, K.2.2.1, K.2.2.2.1, K.2.2.2.2.1, X, K.2.2.2.2.2.2) σ' :=
  ⟨h.1.r o (by decide), h.2.1.r o (by decide), h.2.2.1.r o (by decide), ⟨_, h.2.2.2.1.choose_spec.r o (by decide)⟩, h.2.2.2.2.1.r o (by decide), h.2.2.2.2.2.1.r o (by decide), k, ⟨_, h.2.2.2.2.2.2.2.1.choose_spec.r o (by decide)⟩, by rw [o 0 (by decide)]; exact h.2.2.2.2.2.2.2.2.1, by rw [o 0 (by decide)]; exact h.2.2.2.2.2.2.2.2.2.1, h.2.2.2.2.2.2.2.2.2.2.r o (by decide)⟩
theorem cCls.jud {K : kS} {J : jS} {σ σ' : mc_G} (h : cCls K σ) (o : ofR 162 166 σ σ') (k : cJud J σ') : cCls K σ' :=
  ⟨h.1.r o (by decide), h.2.1.r o (by decide), h.2.2.1.r o (by decide), ⟨_, h.2.2.2.1.choose_spec.r o (by decide)⟩, h.2.2.2.2.1.r o (by decide), h.2.2.2.2.2.1.r o (by decide), h.2.2.2.2.2.2.1.r o (by decide), ⟨_, k⟩, by rw [o 0 (by decide)]; exact h.2.2.2.2.2.2.2.2.1, by rw [o 0 (by decide)]; exact h.2.2.2.2.2.2.2.2.2.1, h.2.2.2.2.2.2.2.2.2.2.r o (by decide)⟩
theorem up_r (σ : mc_G) (a i : Nat) (v : Int32) : ofR a a σ (mc_up σ a i v) := fun b hb => mc_upn _ _ _ (by omega)
theorem cCls.mad {K : kS} {σ : mc_G} {v : Int32} {m : Bool} (h : cCls K σ) (hv : v = bI m) : cCls (K.1, K.2.1, K.2.2.1, K.2.2.2.1, K.2.2.2.2.1, K.2.2.2.2.2.1, m, K.2.2.2.2.2.2.2) (mc_up σ 0 8 v) := by
  have o := up_r σ 0 8 v
  exact ⟨h.1.r o (by decide), h.2.1.r o (by decide), h.2.2.1.r o (by decide), ⟨_, h.2.2.2.1.choose_spec.r o (by decide)⟩, h.2.2.2.2.1.r o (by decide), h.2.2.2.2.2.1.r o (by decide), h.2.2.2.2.2.2.1.r o (by decide), ⟨_, h.2.2.2.2.2.2.2.1.choose_spec.r o (by decide)⟩, by rw [upj, if_pos rfl]; exact hv, by rw [upj, if_neg (by decide)]; exact h.2.2.2.2.2.2.2.2.2.1, h.2.2.2.2.2.2.2.2.2.2.r o (by decide)⟩
theorem cCls.flt {K : kS} {σ : mc_G} {v : Int32} {f : Nat} (h : cCls K σ) (hv : v = nI f) : cCls (K.1, K.2.1, K.2.2.1, K.2.2.2.1, K.2.2.2.2.1, K.2.2.2.2.2.1, K.2.2.2.2.2.2.1, f) (mc_up σ 0 9 v) := by
  have o := up_r σ 0 9 v
  exact ⟨h.1.r o (by decide), h.2.1.r o (by decide), h.2.2.1.r o (by decide), ⟨_, h.2.2.2.1.choose_spec.r o (by decide)⟩, h.2.2.2.2.1.r o (by decide), h.2.2.2.2.2.1.r o (by decide), h.2.2.2.2.2.2.1.r o (by decide), ⟨_, h.2.2.2.2.2.2.2.1.choose_spec.r o (by decide)⟩, by rw [upj, if_neg (by decide)]; exact h.2.2.2.2.2.2.2.2.1, by rw [upj, if_pos rfl]; exact hv, h.2.2.2.2.2.2.2.2.2.2.r o (by decide)⟩
/-- an argument: below 0, or a number -/
def oV (x : Int32) (u : Option Nat) : Prop := match u with
  | none => x < 0
  | some k => x = nI k ∧ k < 2 ^ 31
theorem oVx (x : Int32) : ∃ u, oV x u := by
  rcases ix x with h | ⟨k, h1, h2⟩
  · exact ⟨none, h⟩
  · exact ⟨some k, h1, h2⟩
def kOk (K : kS) : Prop := tOk K.1 ∧ (pn K.2.1 ≤ 30 ∧ qn K.2.1 ≤ 4) ∧ (∀ k, k < pn K.2.1 → po K.2.1 k ≤ 20) ∧ (∀ j, j < qn K.2.1 → qf K.2.1 j < qt K.2.1 j ∧ qt K.2.1 j ≤ 30 ∧ qa K.2.1 j < 30 ∧ qk K.2.1 j < 8) ∧ pNum K.2.1 ∧ pTy K.2.1 K.1 ∧ K.2.2.1.1 = 0 ∧ gC K.2.1 K.1 K.2.2.1

def mc_wds (t : mc_T) : List Cond := Cond.code t.1 t.2.1 t.2.2.1 t.2.2.2.1 :: mc_ws
def mc_Pc (E : mc_H) (al : Bool) (as : List mc_V) (M : mc_M) : Array Value → State → Prop := va_Pc (as.map (mc_tv E)) (fun U => mc_U E U ∧ mc_S E al M U.heap)
def mc_Qc (E : mc_H) (al : Bool) (r : Option mc_V × mc_M) : Array Value → State → Outcome → State → Prop := fun _ st oc t => oc = .returned (r.1.map (mc_tv E)) ∧ mc_U E t ∧ mc_S E al r.2 t.heap ∧ va_F (mc_A E al) st t
theorem mc_do_mono {al : Bool} {i : Instr} {len pc pc' : Nat} {rr : List Nat} {lo lo' : List (Nat × mc_V)} {st st' : List mc_V} {M M' : mc_M} (h : mc_do al i len rr pc lo st M = some (.inl (pc', lo', st', M'))) : M.1 ≤ M'.1 := by
  unfold mc_do at h
  split at h <;> (repeat' split at h) <;> first | (cases h; exact Nat.le_refl _) | (cases h; exact Nat.le_succ _) | cases h
theorem mc_mono (al : Bool) : ∀ (n : Nat) (y pc : Nat) (lo : List (Nat × mc_V)) (st : List mc_V) (M : mc_M) (r : Option mc_V × mc_M), mc_ev al n y pc lo st M = some r → M.1 ≤ r.2.1 := by
  intro n
  induction n with
  | zero => intro y pc lo st M r h; simp [mc_ev] at h
  | succ n ih =>
    intro y pc lo st M r h
    simp only [mc_ev] at h
    cases hs : mc_stp al (mc_code y) pc lo st M with
    | none => rw [hs] at h; simp at h
    | some q =>
      rw [hs] at h
      rcases q with q | q | q
      · have h1 := ih _ _ _ _ _ _ h
        unfold mc_stp at hs
        split at hs
        · cases hs
        · obtain ⟨pc', lo', st', M'⟩ := q
          exact Nat.le_trans (mc_do_mono hs) h1
      · cases h
        exact Nat.le_refl _
      · simp only at h
        cases hc : mc_ev al n q.1 0 (mc_lo 0 q.2.1) [] M with
        | none => rw [hc] at h; simp at h
        | some z =>
          rw [hc] at h
          exact Nat.le_trans (ih _ _ _ _ _ _ hc) (ih _ _ _ _ _ _ h)
theorem mc_find_mem {cd : List mc_I} {pc : Nat} {q : Instr × Nat × List Nat} (h : mc_find cd pc = some q) : (pc, q) ∈ cd := by
  induction cd with
  | nil => simp [mc_find] at h
  | cons x r ih =>
    unfold mc_find at h
    by_cases hx : x.1 = pc
    · rw [if_pos hx] at h
      have : x = (pc, q) := by rw [← hx, ← Option.some.inj h]
      rw [this]; exact List.mem_cons_self
    · rw [if_neg hx] at h
      exact List.mem_cons_of_mem _ (ih h)
theorem mc_args_tr (E : mc_H) : ∀ (as : List mc_V) (i : Nat), lv_args i (as.map (mc_tv E)) = mc_trl E (mc_lo i as)
  | [], _ => rfl
  | v :: vs, i => by
    show (i, mc_tv E v) :: lv_args (if (mc_tv E v).category = 2 then i + 2 else i + 1) (vs.map (mc_tv E)) = (i, mc_tv E v) :: mc_trl E (mc_lo (i + 1) vs)
    rw [mc_tv_cat, if_neg (by decide), mc_args_tr E vs (i + 1)]
theorem mc_lgsl (E : mc_H) : ∀ as : List mc_V, (lg_sl (as.map (mc_tv E))).length = as.length
  | [] => rfl
  | v :: vs => by
    have ih := mc_lgsl E vs
    unfold lg_sl at ih ⊢
    rw [List.map_cons, List.flatMap_cons, List.length_append, ih, mc_tv_cat, if_neg (by decide)]
    simp; omega
theorem mc_blind (E : mc_H) (al : Bool) (as : List mc_V) (M : mc_M) : FrameBlind (mc_Pc E al as M) := by
  intro a U g mk h
  obtain ⟨h1, h2, h3⟩ := h
  exact ⟨h1, mc_U.to (U := U.calling g mk a) h2 (Vm.Alike.refl U.vm) (Nat.le_refl _) (fun _ _ _ => rfl), h3⟩
section MSND
variable {l : Launch} {p : Program} {e : Env} {R : Room} {s : State} {m : MethodId} {args : Array Value} {below : List Frame} {meth : Method} {c : Code} {Q : State → Prop}
/-- behind a call -/
theorem mc_after {E : mc_H} {al : Bool} {t : mc_T} {z : Option mc_V × mc_M} {n0 pc : Nat} {lo : List (Nat × mc_V)} {M : mc_M} {H : Heap} {locs : List Loc} {cells slots : Nat} {ls : Array Slot} {st0 : List Value} {rest : List mc_V} {aa : Array Value}
    (hr : mc_Rep E al t n0 s lo M H locs cells slots ls) (hm : M.1 ≤ z.2.1)
    (hrun : va_Run p l e R s m args below meth c H locs cells slots (z.2.1 - M.1) (mc_us z.2.1 - mc_us M.1) (F0 m pc ls st0) (rest.map (mc_tv E)) (mc_Qc E al z aa) (mc_A E al))
    (k : ∀ (H' : Heap) (locs' : List Loc) (cells' slots' : Nat), mc_Rep E al t n0 s lo z.2 H' locs' cells' slots' ls → W p l e R s m args below meth c H' locs' cells' slots' Q (F0 m (pc + 3) ls ((z.1.toList ++ rest).map (mc_tv E)))) :
    W p l e R s m args below meth c H locs cells slots Q (F0 m pc ls st0) := by
  obtain ⟨hlv, hS, hV, h0, hce, hsl⟩ := hr
  intro T hT X
  obtain ⟨v, st₀, tt, T', L, h00, X', hL, e1, e2, hq, st⟩ := hrun T hT X
  obtain ⟨hv, hU1, hS1, hz, hk⟩ := hq
  rw [h00] at hz hk
  have hv' : v = z.1.map (mc_tv E) := Outcome.returned.inj hv
  have hm1 := mc_us_mono hm
  have hm0 := mc_us_mono h0
  obtain ⟨t2, a1, b1⟩ := k T'.heap (locs ++ L) (cells + (z.2.1 - M.1)) (slots + (mc_us z.2.1 - mc_us M.1)) ⟨hlv, by rw [e1]; exact hS1, ⟨Nat.le_trans hV.1 (by rw [e1]; exact hz), fun q h1 h2 => by rw [e1, hk q (Nat.lt_of_lt_of_le h1 hV.1) h2]; exact hV.2.1 q h1 h2, fun q hq => by
      rcases List.mem_append.mp hq with h | h
      · exact hV.2.2 q h
      · exact hL q h⟩, Nat.le_trans h0 hm, by omega, by omega⟩ T' rfl X'
  refine ⟨t2, st t2 ?_, b1⟩
  have e3 : v.toList ++ rest.map (mc_tv E) = (z.1.toList ++ rest).map (mc_tv E) := by
    rw [hv', List.map_append]
    cases z.1 <;> rfl
  rw [e3]
  exact a1
/-- a method that the small machine runs to its end is met -/
theorem mc_met_of {E : mc_H} {al : Bool} {u : mc_T} {as : List mc_V} {M : mc_M} {z : Option mc_V × mc_M} (ho : mc_own u) (hna : as.length ≤ u.2.2.1)
    (ih : ∀ (p : Program) (e : Env) (s : State) (m : MethodId) (args : Array Value) (below : List Frame) (meth : Method) (c : Code), mc_Cx E u p s m args meth c → ∀ (H : Heap) (locs : List Loc) (cells slots : Nat) (ls : Array Slot), mc_Rep E al u M.1 s (mc_lo 0 as) M H locs cells slots ls → W p l e (mc_rm u M.1 z.2.1) s m args below meth c H locs cells slots (MQ below (mc_Qc E al z) args s (z.2.1 - M.1) (mc_us z.2.1 - mc_us M.1) (mc_A E al)) (F0 m 0 ls [])) :
    Met l u.1 (mc_wds u) (mc_rm u M.1 z.2.1) (mc_Pc E al as M) (mc_Qc E al z) (z.2.1 - M.1) (mc_us z.2.1 - mc_us M.1) (mc_A E al) := by
  have hpl : plainName u.1.cls = true := by
    have := ho.2
    simp only [Bool.and_eq_true] at this
    exact this.1.1.2
  refine Met.ofW (cc := u.2.1) (maxL := u.2.2.1) (ret := u.2.2.2.1) hpl rfl ?_
  intro p e s m args below meth c s₁ B hml hv
  obtain ⟨rfl, hU, hS⟩ := hv
  have hts := atoms_spec (ws := mc_wds u) B.pre
  have C : mc_Cx E u p s m (as.map (mc_tv E)).toArray meth c := ⟨B.exec, B.bytes, hml, findClass_of_methodNamed B.named, fun w hw => hts w (List.mem_cons_of_mem _ hw), B.returns, B.notSynchronized, (name_of_methodNamed B.named B.method).1, hU⟩
  have hl := lv_entry (as.map (mc_tv E)) (n := u.2.2.1) (by rw [mc_lgsl]; exact hna)
  rw [lg_entry_eq]
  generalize (lg_sl (as.map (mc_tv E)) ++ List.replicate (u.2.2.1 - (lg_sl (as.map (mc_tv E))).length) Slot.unset).toArray = ls at hl ⊢
  rw [mc_args_tr] at hl
  exact ih p e s m _ below meth c C s.heap [] 0 0 ls ⟨hl, hS, va_S.rf, Nat.le_refl _, by omega, by omega⟩
end MSND

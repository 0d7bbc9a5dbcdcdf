/-! what a memory of the small machine says of a heap -/
abbrev mc_H : Type := va_G × (ClassId × ClassId × ClassId) × (Nat × Nat × Nat)
def mc_A (E : mc_H) (al : Bool) : Nat → Prop := fun q => E.2.2.1 ≤ q ∧ (al = true ∨ q < E.2.2.1 + 187)
theorem mc_A_w {E : mc_H} {al : Bool} {q : Nat} (h : mc_A E al q) : mc_A E true q := ⟨h.1, Or.inl rfl⟩
def mc_adr (E : mc_H) (i : Nat) : Nat := if i < 1000 then E.2.2.1 + i else if i = 1000 then E.2.2.2.1 else E.2.2.2.2
def mc_tv (E : mc_H) : mc_V → Value
  | .inl x => .int x
  | .inr r => va_rf (r.map (mc_adr E))
def mc_tys (E : mc_H) : List (ClassId × FieldType) := [(E.2.1.1, .int), (E.2.1.2.1, .boolean), (E.2.1.2.2, .object RX0)]
def mc_fs (E : mc_H) (k n : Nat) (f : Nat → Option Nat) (g : Nat → Int32) : List Value := (List.range n).map (fun j => if mc_isr k j = true then va_rf ((f j).map (mc_adr E)) else .int (g j))
def mc_cell (E : mc_H) (ρ : Nat → Nat → Option Nat) (σ : Nat → Nat → Int32) (a : Nat) : va_E :=
  if (mc_ty a).1 = 0 then .inl (E.2.1.1, (mc_ty a).2, .inl (σ a))
  else if (mc_ty a).1 = 1 then .inl (E.2.1.2.1, (mc_ty a).2, .inl (σ a))
  else if (mc_ty a).1 = 2 then .inl (E.2.1.2.2, (mc_ty a).2, .inr (.inr (.inr (.inr (fun i => (ρ a i).map (mc_adr E))))))
  else .inr ((mc_ty a).1 - 3, mc_fs E ((mc_ty a).1 - 3) (mc_ty a).2 (ρ a) (σ a))
def mc_s0 (o : Nat) : Int32 := nI ([0, 0, 0, 0, 0, 1, 2, 1, 2, 1, 2, 4, 0, 1, 1, 1, 1, 2, 0, 0, 1].getD o 0)
def mc_s1 (o : Nat) : Int32 := nI ([1, 2, 1, 1, 2, 0, 0, 0, 0, 2, 1, 2, 1, 0, 1, 0, 0, 0, 0, 0, 0].getD o 0)
def mc_S (E : mc_H) (al : Bool) (M : mc_M) (H : Heap) : Prop := (M.1 ≤ 999 ∧ (al = false → M.1 ≤ 187)) ∧ (∀ a, a < M.1 → va_at E.1 vwCl (mc_adr E a, mc_cell E M.2.1 M.2.2 a) H) ∧ (al = true → H.size = E.2.2.1 + M.1) ∧ (∀ o, o < 21 → M.2.2 1000 o = mc_s0 o) ∧ (∀ o, o < 21 → M.2.2 1001 o = mc_s1 o)
def mc_U (E : mc_H) (U : State) : Prop := va_K E.1 vwCl (mc_tys E) U ∧ (va_Z "FrameWriter" "TAKES" "[I" (.ref E.2.2.2.1) (mc_A E true) U U.heap ∧ va_T .int E.2.2.2.1 21 (fun o => .int (mc_s0 o)) (mc_A E true) U U.heap) ∧ (va_Z "FrameWriter" "GIVES" "[I" (.ref E.2.2.2.2) (mc_A E true) U U.heap ∧ va_T .int E.2.2.2.2 21 (fun o => .int (mc_s1 o)) (mc_A E true) U U.heap) ∧ va_AO RX0 U ∧ E.2.2.1 ≤ U.heap.size
theorem mc_U.to {E : mc_H} {s U : State} (h : mc_U E s) (hvm : s.vm.Alike U.vm) (hz : s.heap.size ≤ U.heap.size) (hq : ∀ q : Nat, q < s.heap.size → ¬ mc_A E true q → U.heap[q]? = s.heap[q]?) : mc_U E U :=
  ⟨h.1.moved hvm, ⟨(h.2.1.1.moved hvm).kept hq, (h.2.1.2.moved hvm).kept hq⟩, ⟨(h.2.2.1.1.moved hvm).kept hq, (h.2.2.1.2.moved hvm).kept hq⟩, h.2.2.2.1.moved hvm, Nat.le_trans h.2.2.2.2 hz⟩
theorem mc_cell0 {E : mc_H} {ρ : Nat → Nat → Option Nat} {σ : Nat → Nat → Int32} {a : Nat} (h : (mc_ty a).1 = 0) : mc_cell E ρ σ a = .inl (E.2.1.1, (mc_ty a).2, .inl (σ a)) := by unfold mc_cell; rw [if_pos h]
theorem mc_cell1 {E : mc_H} {ρ : Nat → Nat → Option Nat} {σ : Nat → Nat → Int32} {a : Nat} (h : (mc_ty a).1 = 1) : mc_cell E ρ σ a = .inl (E.2.1.2.1, (mc_ty a).2, .inl (σ a)) := by unfold mc_cell; rw [if_neg (by omega), if_pos h]
theorem mc_cell2 {E : mc_H} {ρ : Nat → Nat → Option Nat} {σ : Nat → Nat → Int32} {a : Nat} (h : (mc_ty a).1 = 2) : mc_cell E ρ σ a = .inl (E.2.1.2.2, (mc_ty a).2, .inr (.inr (.inr (.inr (fun i => (ρ a i).map (mc_adr E)))))) := by unfold mc_cell; rw [if_neg (by omega), if_neg (by omega), if_pos h]
theorem mc_cell3 {E : mc_H} {ρ : Nat → Nat → Option Nat} {σ : Nat → Nat → Int32} {a k : Nat} (h : (mc_ty a).1 = 3 + k) : mc_cell E ρ σ a = .inr (k, mc_fs E k (mc_ty a).2 (ρ a) (σ a)) := by
  unfold mc_cell; rw [if_neg (by omega), if_neg (by omega), if_neg (by omega), show (mc_ty a).1 - 3 = k by omega]
/-- a cell is told by its own row alone -/
theorem mc_cell_congr {E : mc_H} {ρ ρ' : Nat → Nat → Option Nat} {σ σ' : Nat → Nat → Int32} {a : Nat} (h1 : ρ' a = ρ a) (h2 : σ' a = σ a) : mc_cell E ρ' σ' a = mc_cell E ρ σ a := by
  unfold mc_cell; rw [h1, h2]
theorem mc_rd_lt {n a : Nat} (h : a < n) : mc_rd n a = true := by simp [mc_rd, h]
theorem mc_rd_cases {n a : Nat} (h : mc_rd n a = true) : a < n ∨ a = 1000 ∨ a = 1001 := by
  simp only [mc_rd, Bool.or_eq_true, decide_eq_true_eq] at h
  rcases h with (h | h) | h
  · exact Or.inl h
  · exact Or.inr (Or.inl h)
  · exact Or.inr (Or.inr h)
theorem mc_adr_ne {E : mc_H} {al : Bool} {M : mc_M} {H : Heap} (hS : mc_S E al M H) {a b : Nat} (ha : a < M.1) (hb : b < M.1) (hne : b ≠ a) : mc_adr E b ≠ mc_adr E a := by
  have h9 := hS.1.1
  have e1 : mc_adr E a = E.2.2.1 + a := by unfold mc_adr; rw [if_pos (by omega)]
  have e2 : mc_adr E b = E.2.2.1 + b := by unfold mc_adr; rw [if_pos (by omega)]
  omega
theorem mc_adr_A {E : mc_H} {al : Bool} {M : mc_M} {H : Heap} (hS : mc_S E al M H) {a : Nat} (ha : a < M.1) : mc_A E al (mc_adr E a) := by
  have h9 := hS.1.1
  have h8 := hS.1.2
  unfold mc_A mc_adr
  rw [if_pos (by omega)]
  cases al
  · exact ⟨by omega, Or.inr (by have := h8 rfl; omega)⟩
  · exact ⟨by omega, Or.inl rfl⟩
/-- one cell is written -/
theorem mc_S.st {E : mc_H} {al : Bool} {M : mc_M} {H H1 : Heap} {a : Nat} {ρ' : Nat → Nat → Option Nat} {σ' : Nat → Nat → Int32} (hS : mc_S E al M H) (ha : a < M.1) (hat : va_at E.1 vwCl (mc_adr E a, mc_cell E ρ' σ' a) H1) (hz : H1.size = H.size) (oq : ∀ q, q ≠ mc_adr E a → H1[q]? = H[q]?) (hr : ∀ b, b ≠ a → ρ' b = M.2.1 b) (hs : ∀ b, b ≠ a → σ' b = M.2.2 b) : mc_S E al (M.1, ρ', σ') H1 := by
  have h9 := hS.1.1
  refine ⟨hS.1, fun b hb => ?_, fun h => by rw [hz]; exact hS.2.2.1 h, fun o ho => ?_, fun o ho => ?_⟩
  rotate_left
  · show σ' 1000 o = _
    rw [hs 1000 (by omega)]; exact hS.2.2.2.1 o ho
  · show σ' 1001 o = _
    rw [hs 1001 (by omega)]; exact hS.2.2.2.2 o ho
  by_cases hab : b = a
  · subst hab; exact hat
  · show va_at E.1 vwCl (mc_adr E b, mc_cell E ρ' σ' b) H1
    rw [mc_cell_congr (hr b hab) (hs b hab)]
    exact (hS.2.1 b hb).kept (oq _ (mc_adr_ne hS ha hb hab))
/-- a cell comes -/
theorem mc_S.nw {E : mc_H} {M : mc_M} {H H1 : Heap} {ρ' : Nat → Nat → Option Nat} {σ' : Nat → Nat → Int32} (hS : mc_S E true M H) (h9 : M.1 < 999) (hat : va_at E.1 vwCl (H.size, mc_cell E ρ' σ' M.1) H1) (hz : H1.size = H.size + 1) (oq : ∀ q, q < H.size → H1[q]? = H[q]?) (hr : ∀ b, b ≠ M.1 → ρ' b = M.2.1 b) (hs : ∀ b, b ≠ M.1 → σ' b = M.2.2 b) : mc_S E true (M.1 + 1, ρ', σ') H1 ∧ mc_adr E M.1 = H.size := by
  have e1 : mc_adr E M.1 = H.size := by unfold mc_adr; rw [if_pos (by omega), hS.2.2.1 rfl]
  refine ⟨⟨⟨h9, fun h => by cases h⟩, fun b hb => ?_, fun _ => ?_, fun o ho => ?_, fun o ho => ?_⟩, e1⟩
  · show va_at E.1 vwCl (mc_adr E b, mc_cell E ρ' σ' b) H1
    by_cases hab : b = M.1
    · subst hab; rw [e1]; exact hat
    · rw [mc_cell_congr (hr b hab) (hs b hab)]
      have hb' : b < M.1 := by have : b < M.1 + 1 := hb; omega
      exact (hS.2.1 b hb').kept (oq _ (hS.2.1 b hb').lt)
  · show H1.size = E.2.2.1 + (M.1 + 1)
    rw [hz, hS.2.2.1 rfl]; omega
  · show σ' 1000 o = _
    rw [hs 1000 (by omega)]; exact hS.2.2.2.1 o ho
  · show σ' 1001 o = _
    rw [hs 1001 (by omega)]; exact hS.2.2.2.2 o ho
theorem mc_fs_get {E : mc_H} {k n j : Nat} {f : Nat → Option Nat} {g : Nat → Int32} (h : j < n) : (mc_fs E k n f g)[j]? = some (if mc_isr k j = true then va_rf ((f j).map (mc_adr E)) else .int (g j)) := by simp [mc_fs, h]
theorem mc_fs_setr {E : mc_H} {k n j : Nat} {f : Nat → Option Nat} {g : Nat → Int32} {v : Nat} (hi : mc_isr k j = true) : (mc_fs E k n f g).set j (.ref (mc_adr E v)) = mc_fs E k n (fun i => if i = j then some v else f i) g := by
  apply List.ext_getElem?
  intro i
  by_cases hn : i < n
  · rw [List.getElem?_set, mc_fs_get hn, mc_fs_get hn]
    by_cases hij : j = i
    · subst hij; simp [mc_fs, hn, hi, va_rf]
    · have : ¬ i = j := fun e => hij e.symm
      simp [hij, this]
  · rw [List.getElem?_eq_none (by simp [mc_fs]; omega), List.getElem?_eq_none (by simp [mc_fs]; omega)]
theorem mc_fs_seti {E : mc_H} {k n j : Nat} {f : Nat → Option Nat} {g : Nat → Int32} {x : Int32} (hi : mc_isr k j = false) : (mc_fs E k n f g).set j (.int x) = mc_fs E k n f (fun i => if i = j then x else g i) := by
  apply List.ext_getElem?
  intro i
  by_cases hn : i < n
  · rw [List.getElem?_set, mc_fs_get hn, mc_fs_get hn]
    by_cases hij : j = i
    · subst hij; simp [mc_fs, hn, hi]
    · have : ¬ i = j := fun e => hij e.symm
      simp [hij, this]
  · rw [List.getElem?_eq_none (by simp [mc_fs]; omega), List.getElem?_eq_none (by simp [mc_fs]; omega)]
section MROWS
variable {p : Program} {l : Launch} {e : Env} {R : Room} {s : State} {m : MethodId} {args : Array Value} {below : List Frame} {meth : Method} {c : Code} {H : Heap} {locs : List Loc} {cells slots : Nat} {Q : State → Prop}
variable {cc : ByteArray} {pc : Nat} {ls : Array Slot} {rest : List Value} {D : va_G} {cl : List vw_C} {A : Nat → Prop} {a : Nat} {tys : List (ClassId × FieldType)} {H0 : Heap}
theorem mc_one {q : Nat × va_E} (h : va_at D cl q H) : va_P D cl [q] H := by
  intro k x hx
  have hz : k < 1 := (List.getElem?_eq_some_iff.mp hx).1
  rw [show k = 0 by omega] at hx
  cases hx
  exact h
theorem mc_put (hexec : p.tables.exec = Jvm.exec) (hb : c.code = cc) {own C : String} {T : u_T} {N ci index : Nat} {Ts : List Cond} (hts : ∀ w ∈ Ts, w.before args s = true) (hin : ∀ w ∈ u_ws C T N, w ∈ Ts) (ty0 : Nat → FieldType) (hty : ∀ k, k < N → parseFieldDescriptor (T k).2.2.1 = some (ty0 k)) (hnm : ∀ a, a < N → ∀ b, b < N → a ≠ b → (T a).2.1 ≠ (T b).2.1) (hown : s.vm.findClass own = some m.cls) (hK : va_K D cl tys s) {fs : List Value} (hat : va_at D cl (a, .inr (ci, fs)) H) (hA : A a) (hS0 : va_S A H0 H locs) (hc : cl[ci]? = some (C, T, N)) (k : Nat) (hk : k < N) (hlink : (Cond.fieldLink own index (T k).1 (T k).2.1 (T k).2.2.1).before args s = true) (hfin : (T k).2.2.2 = false ∨ (meth.name = "<init>" ∧ (T k).1 = own)) {ty : FieldType} {v : Value} (hd : parseFieldDescriptor (T k).2.2.1 = some ty) (hn : narrow ty v = v) (hfit : fits ty v = true) (hl : k < fs.length)
    (hdg : decode cc pc = .ok (.putfield index, 3)) (kk : ∀ (H1 : Heap) (locs1 : List Loc), va_at D cl (a, .inr (ci, fs.set k v)) H1 → H1.size = H.size → (∀ q, q ≠ a → H1[q]? = H[q]?) → va_S A H0 H1 locs1 → W p l e R s m args below meth c H1 locs1 cells slots Q (F0 m (pc + 3) ls rest)) : W p l e R s m args below meth c H locs cells slots Q (F0 m pc ls (v :: .ref a :: rest)) := by
  have hap := va_apart (own := own) hts hin ty0 hty hnm hK hc
  obtain ⟨r, h1, cell, q1, q2, q3, q4⟩ := id hat
  have hr : r = (C, T, N) := Option.some.inj (h1.symm.trans hc)
  subst hr
  obtain ⟨hS, hfc, kC, hkC, hkind⟩ := hK.1 ci _ hc
  obtain ⟨cf, kf, fi, f, hi, hsl⟩ := hS k hk
  have hlay := hts _ (hin _ (u_in_lay hk))
  unfold u_lay at hlay
  have hst := (u_facts hfc hkC (u_lays hts hin hk) hi).1
  by_cases hfl : (T k).2.2.2 = true
  · rcases hfin with hfin | ⟨hin2, hdecl⟩
    · rw [hfin] at hfl; cases hfl
    · rw [if_pos hfl] at hlay
      have hcf : m.cls = cf := by
        obtain ⟨_, _, c', _, _, _, -, -, hf', -, -, -, hown2, -⟩ := Cond.laysFinal_spec hlay
        have e1 : c' = cf := by have := hi.symm.trans hf'; simp at this; exact this.1.symm
        rw [hdecl] at hown2
        rw [← e1]; exact Option.some.inj (hown.symm.trans hown2)
      have h6 := u_fits hfc hkC hkind (Or.inr hlay) hi hd hn hfit
      refine W.putFinK hexec hb hown hlink hi hst hcf hin2 (by rw [q2]; exact h6) q1 q3 (by rw [hsl]; exact k2_hasslot (q4 k hk)) rfl rfl hdg fun H' e1 e2 e3 => ?_
      rw [hsl] at e1 ⊢
      exact kk H' _ ⟨_, hc, t_OB.to (V := updV (vp_V fs) k v) ⟨_, e1, q2, q3, t_set q4 hap hk v⟩ (fun j _ => vp_updV_set hl v j)⟩ e2 e3 (hS0.put e2 e3 hA)
  · rw [if_neg hfl] at hlay
    have h6 := u_store hfc hkC hkind hlay hi hd hn hfit
    refine W.putK hexec hb (f := f) ⟨hown, hlink, ⟨_, _, _, hi⟩, hst⟩ (by rw [q2]; exact h6) q1 q3 (by rw [hsl]; exact k2_hasslot (q4 k hk)) rfl rfl hdg fun H' e1 e2 e3 => ?_
    rw [hsl] at e1 ⊢
    exact kk H' _ ⟨_, hc, t_OB.to (V := updV (vp_V fs) k v) ⟨_, e1, q2, q3, t_set q4 hap hk v⟩ (fun j _ => vp_updV_set hl v j)⟩ e2 e3 (hS0.put e2 e3 hA)
theorem mc_iast (hexec : p.tables.exec = Jvm.exec) (hb : c.code = cc) (hK : va_K D cl tys s) {cA : ClassId} {n : Nat} {f : Nat → Int32} (hat : va_at D cl (a, .inl (cA, n, .inl f)) H) (hA : A a) (hS : va_S A H0 H locs) (t0 : Nat) (ht : tys[t0]? = some (cA, .int)) {i : Int32} {x : Int32} (hin : vp_in i n) (hdg : decode cc pc = .ok (.iastore, 1))
    (kk : ∀ (H1 : Heap) (locs1 : List Loc), va_at D cl (a, .inl (cA, n, .inl (upd f i.toNatClampNeg x))) H1 → H1.size = H.size → (∀ q, q ≠ a → H1[q]? = H[q]?) → va_S A H0 H1 locs1 → W p l e R s m args below meth c H1 locs1 cells slots Q (F0 m (pc + 1) ls rest)) : W p l e R s m args below meth c H locs cells slots Q (F0 m pc ls (.int x :: .int i :: .ref a :: rest)) := by
  refine W.iast hexec hb hat ((hK.2 t0 _ ht).1 n (fun j => .int (f j))) (fun q => by cases q) (by show ¬ (i < 0 ∨ (arrV _ _ _).slots.size ≤ _); rw [arrV_size]; exact hin) rfl rfl hdg fun H1 e z oq => ?_
  refine kk H1 _ ?_ z oq (hS.put z oq hA)
  show H1[a]? = some (vp_cell _ _)
  rw [e]
  rw [vp_cell_i, vp_cell_i, arrV_store]
  congr 2
  funext q
  by_cases hq : q = i.toNatClampNeg
  · subst hq
    simp [updV, upd]
  · simp [updV, upd, hq]
theorem mc_zast (hexec : p.tables.exec = Jvm.exec) (hb : c.code = cc) (hK : va_K D cl tys s) {cA : ClassId} {n : Nat} {f : Nat → Int32} (hat : va_at D cl (a, .inl (cA, n, .inl f)) H) (hA : A a) (hS : va_S A H0 H locs) (t0 : Nat) (ht : tys[t0]? = some (cA, .boolean)) {i : Int32} {x : Int32} (hx : x = 0 ∨ x = 1) (hin : vp_in i n) (hdg : decode cc pc = .ok (.bastore, 1))
    (kk : ∀ (H1 : Heap) (locs1 : List Loc), va_at D cl (a, .inl (cA, n, .inl (upd f i.toNatClampNeg x))) H1 → H1.size = H.size → (∀ q, q ≠ a → H1[q]? = H[q]?) → va_S A H0 H1 locs1 → W p l e R s m args below meth c H1 locs1 cells slots Q (F0 m (pc + 1) ls rest)) : W p l e R s m args below meth c H locs cells slots Q (F0 m pc ls (.int x :: .int i :: .ref a :: rest)) := by
  have hnar : narrow .boolean (.int x) = .int x := by rcases hx with rfl | rfl <;> decide +kernel
  refine W.zast hexec hb hat ((hK.2 t0 _ ht).1 n (fun j => .int (f j))) (fun q => by cases q) (by show ¬ (i < 0 ∨ (arrV _ _ _).slots.size ≤ _); rw [arrV_size]; exact hin) rfl rfl hdg fun H1 e z oq => ?_
  refine kk H1 _ ?_ z oq (hS.put z oq hA)
  rw [hnar] at e
  show H1[a]? = some (vp_cell _ _)
  rw [e]
  rw [vp_cell_i, vp_cell_i, arrV_store]
  congr 2
  funext q
  by_cases hq : q = i.toNatClampNeg
  · subst hq
    simp [updV, upd]
  · simp [updV, upd, hq]
theorem mc_astq (hexec : p.tables.exec = Jvm.exec) (hb : c.code = cc) (hK : va_K D cl tys s) {cA : ClassId} {r : vw_C} {n v ci : Nat} {vs : List Value} {f : Nat → Option Nat} (hat : va_at D cl (a, .inl (cA, n, .inr (.inr (.inr (.inr f))))) H) (hA : A a) (hS : va_S A H0 H locs) (t0 : Nat) (ht : tys[t0]? = some (cA, .object r.1)) (hv : va_at D cl (v, .inr (ci, vs)) H) (hc : cl[ci]? = some r) {i : Int32} (hin : vp_in i n) (hdg : decode cc pc = .ok (.aastore, 1))
    (kk : ∀ (H1 : Heap) (locs1 : List Loc), va_at D cl (a, .inl (cA, n, .inr (.inr (.inr (.inr (va_up f i.toNatClampNeg (some v))))))) H1 → H1.size = H.size → (∀ q, q ≠ a → H1[q]? = H[q]?) → va_S A H0 H1 locs1 → W p l e R s m args below meth c H1 locs1 cells slots Q (F0 m (pc + 1) ls rest)) : W p l e R s m args below meth c H locs cells slots Q (F0 m pc ls (.ref v :: .int i :: .ref a :: rest)) := by
  have hlt : i.toNatClampNeg < n := Nat.not_le.mp fun q => hin (Or.inr q)
  have h0 : ¬ i < 0 := fun q => hin (Or.inl q)
  obtain ⟨r', hr', cellV, g1, g2, g3, -⟩ := hv
  have hcls := (hK.1 ci r hc).2
  obtain ⟨kA, comp, k1, k2, k3, -⟩ := (hK.2 t0 _ ht).2
  have hcomp : comp = D.1 ci := Option.some.inj (k3.symm.trans hcls.1)
  subst hcomp
  obtain ⟨kC, hkC, -⟩ := hcls.2
  refine W.aast hexec hb hat (fun q h => by cases h) (fun h => by cases h) k1 k2 rfl hkC ⟨h0, by show _ < (arrV _ _ _).slots.size; rw [arrV_size]; exact hlt⟩ g1 (fun q h => by rw [g3] at h; cases h) (by rw [g2]; exact hkC) (by rw [g2]; exact va_assign hcls) rfl rfl hdg fun H1 e z oq => ?_
  refine kk H1 _ ?_ z oq (hS.put z oq hA)
  show H1[a]? = some (vp_cell _ _)
  rw [e]
  rw [vp_cell_q, vp_cell_q, arrV_store]
  congr 2
  funext q
  by_cases hq : q = i.toNatClampNeg
  · subst hq
    simp [updV, va_up, va_rf]
  · simp [updV, va_up, hq]
end MROWS

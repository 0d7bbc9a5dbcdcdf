def mc_Cx (E : mc_H) (t : mc_T) (p : Program) (s : State) (m : MethodId) (args : Array Value) (meth : Method) (c : Code) : Prop :=
  p.tables.exec = Jvm.exec ∧ c.code = t.2.1 ∧ c.maxLocals = t.2.2.1 ∧ s.vm.findClass t.1.cls = some m.cls ∧ (∀ w ∈ mc_ws, w.before args s = true) ∧ meth.sig.returnType = t.2.2.2.1 ∧ meth.locks = false ∧ meth.name = t.1.name ∧ mc_U E s
def mc_rm (t : mc_T) (n0 nF : Nat) : Room := { frames := mc_num t 0, cells := nF - n0, slots := mc_us nF - mc_us n0, locals := mc_num t 1 }
def mc_trl (E : mc_H) (lo : List (Nat × mc_V)) : List (Nat × Value) := lo.map (fun q => (q.1, mc_tv E q.2))
def mc_Rep (E : mc_H) (al : Bool) (t : mc_T) (n0 : Nat) (s : State) (lo : List (Nat × mc_V)) (M : mc_M) (H : Heap) (locs : List Loc) (cells slots : Nat) (ls : Array Slot) : Prop :=
  lv_has ls t.2.2.1 (mc_trl E lo) ∧ mc_S E al M H ∧ va_S (mc_A E al) s.heap H locs ∧ n0 ≤ M.1 ∧ cells = M.1 - n0 ∧ slots = mc_us M.1 - mc_us n0
theorem mc_tv_cat (E : mc_H) (v : mc_V) : (mc_tv E v).category = 1 := by
  rcases v with x | (_ | x) <;> rfl
theorem mc_get_mem : ∀ {lo : List (Nat × mc_V)} {k : Nat} {v : mc_V}, mc_get lo k = some v → (k, v) ∈ lo
  | [], k, v, h => by simp [mc_get] at h
  | q :: r, k, v, h => by
    unfold mc_get at h
    by_cases hq : q.1 = k
    · rw [if_pos hq] at h
      have : q = (k, v) := by rw [← hq, ← Option.some.inj h]
      rw [this]; exact List.mem_cons_self
    · rw [if_neg hq] at h
      exact List.mem_cons_of_mem _ (mc_get_mem h)
theorem mc_get_at {E : mc_H} {lo : List (Nat × mc_V)} {k n : Nat} {v : mc_V} {ls : Array Slot} (h : mc_get lo k = some v) (hl : lv_has ls n (mc_trl E lo)) : ls[k]? = some (.val (mc_tv E v)) :=
  hl.2.2 (k, mc_tv E v) (List.mem_map.mpr ⟨(k, v), mc_get_mem h, rfl⟩)
theorem mc_set_tr (E : mc_H) (lo : List (Nat × mc_V)) (k : Nat) (v : mc_V) : (k, mc_tv E v) :: (mc_trl E lo).filter (fun q => !(q.1 == k) && !(q.1 + 1 == k && q.2.category == 2)) = mc_trl E (mc_set lo k v) := by
  unfold mc_set mc_trl
  rw [List.map_cons]
  congr 1
  induction lo with
  | nil => rfl
  | cons q r ih =>
    rw [List.map_cons, List.filter_cons, List.filter_cons]
    rw [mc_tv_cat]
    by_cases h : q.1 = k
    · simp only [h, beq_self_eq_true, Bool.not_true, Bool.false_and, Bool.false_eq_true, if_false]
      exact ih
    · have hb : (q.1 == k) = false := by simpa using h
      simp only [hb, Bool.not_false, Bool.true_and, show ((1 : Nat) == 2) = false from rfl, Bool.and_false, if_true, List.map_cons]
      rw [ih]
theorem mc_inb_in {i : Int32} {n : Nat} (h : mc_inb i n = true) : vp_in i n := by
  simp only [mc_inb, Bool.and_eq_true, decide_eq_true_eq] at h
  intro q
  rcases q with q | q
  · exact h.1 q
  · omega
theorem mc_us_s (b : Nat) : mc_us b ≤ mc_us (b + 1) := by
  unfold mc_us
  rw [List.take_add_one, List.map_append, List.sum_append]
  omega
theorem mc_us_mono {a b : Nat} (h : a ≤ b) : mc_us a ≤ mc_us b := by
  induction b with
  | zero => rw [show a = 0 by omega]; exact Nat.le_refl _
  | succ b ih =>
    by_cases hb : a ≤ b
    · exact Nat.le_trans (ih hb) (mc_us_s b)
    · rw [show a = b + 1 by omega]; exact Nat.le_refl _
theorem mc_us_succ {a : Nat} (h9 : a < 999) (hk : (mc_ty a).1 ≠ 9999) : mc_us (a + 1) = mc_us a + (mc_ty a).2 := by
  have e : mc_ty a = mc_tyL.getD a (9999, 0) := by unfold mc_ty; rw [if_neg (by omega), if_neg (by omega)]
  rw [e] at hk ⊢
  unfold mc_us
  rw [List.take_add_one, List.map_append, List.sum_append, List.getD_eq_getElem?_getD] at *
  cases hq : mc_tyL[a]? with
  | none => rw [hq] at hk; exact absurd rfl hk
  | some q => simp
theorem mc_chk_of {t : mc_T} {pc len : Nat} {i : Instr} {r : List Nat} (h : mc_chk t (pc, i, len, r) = true) : decode t.2.1 pc = .ok (i, len) ∧ mc_lenok i len = true ∧ mc_link t pc i r = true := by
  simp only [mc_chk, Bool.and_eq_true, decide_eq_true_eq] at h
  exact ⟨h.1.1, h.1.2, h.2⟩
theorem mc_fk0 {o : Option FieldType} (h : mc_fk o = 0) : o = some .int := by
  cases o with
  | none => simp [mc_fk] at h
  | some t => cases t <;> simp [mc_fk] at h ⊢
theorem mc_fk1 {o : Option FieldType} (h : mc_fk o = 1) : o = some .boolean := by
  cases o with
  | none => simp [mc_fk] at h
  | some t => cases t <;> simp [mc_fk] at h ⊢
theorem mc_fk2 {o : Option FieldType} (h : mc_fk o = 2) : (∃ n, o = some (.object n)) ∨ ∃ t, o = some (.array t) := by
  cases o with
  | none => simp [mc_fk] at h
  | some t => cases t <;> simp [mc_fk] at h ⊢
theorem mc_upa {α : Type} (f : Nat → Nat → α) (a k : Nat) (v : α) : mc_up f a k v a = fun j => if j = k then v else f a j := by funext j; simp [mc_up]
theorem mc_upn {α : Type} (f : Nat → Nat → α) {a b : Nat} (k : Nat) (v : α) (h : b ≠ a) : mc_up f a k v b = f b := by funext j; simp [mc_up, h]
theorem mc_cla {α : Type} (f : Nat → Nat → α) (a : Nat) (v : α) : mc_cl f a v a = fun _ => v := by funext j; simp [mc_cl]
theorem mc_cln {α : Type} (f : Nat → Nat → α) {a b : Nat} (v : α) (h : b ≠ a) : mc_cl f a v b = f b := by funext j; simp [mc_cl, h]
theorem mc_rowa {α : Type} (f : Nat → Nat → α) (a : Nat) (g : Nat → α) : mc_row f a g a = g := by funext j; simp [mc_row]
theorem mc_rown {α : Type} (f : Nat → Nat → α) {a b : Nat} (g : Nat → α) (h : b ≠ a) : mc_row f a g b = f b := by funext j; simp [mc_row, h]

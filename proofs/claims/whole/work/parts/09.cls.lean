/-- what the tables say of a class's fields -/
theorem mc_cls {ci : Nat} {q : vw_C} (h2 : 2 ≤ ci) (h : vwCl[ci]? = some q) : (∀ w ∈ u_ws q.1 q.2.1 q.2.2, w ∈ mc_ws) ∧ (∃ ty : Nat → FieldType, (∀ k, k < q.2.2 → parseFieldDescriptor (q.2.1 k).2.2.1 = some (ty k)) ∧ (∀ j, j < q.2.2 → defaultValue (ty j) = if mc_isr ci j = true then .null else .int 0)) ∧ (∀ a, a < q.2.2 → ∀ b, b < q.2.2 → a ≠ b → (q.2.1 a).2.1 ≠ (q.2.1 b).2.1) := by
  match ci, h2, h with
  | 0, h2, _ => exact absurd h2 (by decide)
  | 1, h2, _ => exact absurd h2 (by decide)
  | 2, _, h => cases h; exact ⟨cw0, ⟨tyX0, tyX0_ok, by decide +kernel⟩, nmX0⟩
  | 3, _, h => cases h; exact ⟨cw1, ⟨tyX1, tyX1_ok, by decide +kernel⟩, nmX1⟩
  | 4, _, h => cases h; exact ⟨cw2, ⟨tyX2, tyX2_ok, by decide +kernel⟩, nmX2⟩
  | 5, _, h => cases h; exact ⟨cw3, ⟨tyX3, tyX3_ok, by decide +kernel⟩, nmX3⟩
  | 6, _, h => cases h; exact ⟨cw4, ⟨tyX4, tyX4_ok, by decide +kernel⟩, nmX4⟩
  | 7, _, h => cases h; exact ⟨cw5, ⟨tyX5, tyX5_ok, by decide +kernel⟩, nmX5⟩
  | 8, _, h => cases h; exact ⟨cw6, ⟨tyX6, tyX6_ok, by decide +kernel⟩, nmX6⟩
  | 9, _, h => cases h; exact ⟨cw7, ⟨tyX7, tyX7_ok, by decide +kernel⟩, nmX7⟩
  | 10, _, h => cases h; exact ⟨cw8, ⟨tyX8, tyX8_ok, by decide +kernel⟩, nmX8⟩
  | 11, _, h => cases h; exact ⟨cw9, ⟨tyX9, tyX9_ok, by decide +kernel⟩, nmX9⟩
  | 12, _, h => cases h; exact ⟨cw10, ⟨tyX10, tyX10_ok, by decide +kernel⟩, nmX10⟩
  | 13, _, h => cases h; exact ⟨cw11, ⟨tyX11, tyX11_ok, by decide +kernel⟩, nmX11⟩
  | 14, _, h => cases h; exact ⟨cw12, ⟨tyX12, tyX12_ok, by decide +kernel⟩, nmX12⟩
  | n + 15, _, h => simp [vwCl] at h
theorem mc_ty_n {a ci : Nat} {q : vw_C} (h : vwCl[ci]? = some q) (ht : (mc_ty a).1 = 3 + ci) : (mc_ty a).2 = q.2.2 := by
  have hc : ci < 15 := (List.getElem?_eq_some_iff.mp h).1
  by_cases h0 : a = 1000
  · subst h0; rw [show (mc_ty 1000).1 = 0 from rfl] at ht; omega
  by_cases h1 : a = 1001
  · subst h1; rw [show (mc_ty 1001).1 = 0 from rfl] at ht; omega
  have e : mc_ty a = mc_tyL.getD a (9999, 0) := by unfold mc_ty; rw [if_neg h0, if_neg h1]
  have hall : mc_tyL.all (fun q => decide (q.1 < 3) || decide ((vwCl[q.1 - 3]?).map (fun z => z.2.2) = some q.2)) = true := by decide +kernel
  rw [e, List.getD_eq_getElem?_getD] at ht ⊢
  cases hq : mc_tyL[a]? with
  | none => rw [hq] at ht; simp at ht; omega
  | some z =>
    rw [hq] at ht
    have h3 := List.all_eq_true.mp hall z (List.mem_of_getElem? hq)
    simp only [Option.getD_some] at ht ⊢
    simp only [Bool.or_eq_true, decide_eq_true_eq] at h3
    rcases h3 with h3 | h3
    · omega
    · rw [show z.1 - 3 = ci by omega, h] at h3
      simpa using h3.symm
def mc_wl (E : mc_H) (M : mc_M) : va_W := (List.range M.1).map (fun a => (mc_adr E a, mc_cell E M.2.1 M.2.2 a))
theorem mc_wl_get {E : mc_H} {M : mc_M} {a : Nat} (h : a < M.1) : (mc_wl E M)[a]? = some (mc_adr E a, mc_cell E M.2.1 M.2.2 a) := by simp [mc_wl, h]
theorem mc_wl_lt {E : mc_H} {M : mc_M} {k : Nat} {q : Nat × va_E} (hk : (mc_wl E M)[k]? = some q) : k < M.1 := by
  have := (List.getElem?_eq_some_iff.mp hk).1
  simpa [mc_wl] using this
theorem mc_wl_P {E : mc_H} {al : Bool} {M : mc_M} {H : Heap} (hS : mc_S E al M H) : va_P E.1 vwCl (mc_wl E M) H := by
  intro k q hk
  have hl := mc_wl_lt hk
  rw [mc_wl_get hl] at hk
  cases hk
  exact hS.2.1 k hl
theorem mc_wl_D {E : mc_H} {al : Bool} {M : mc_M} {H : Heap} (hS : mc_S E al M H) : va_D (mc_A E al) (mc_wl E M) := by
  have h9 := hS.1.1
  constructor
  · intro i j p q hi hj he
    have hl := mc_wl_lt hi
    have hl2 := mc_wl_lt hj
    rw [mc_wl_get hl] at hi
    rw [mc_wl_get hl2] at hj
    cases hi
    cases hj
    by_cases hij : i = j
    · exact hij
    · exact absurd he (mc_adr_ne hS hl2 hl hij)
  · intro k q hk
    have hl := mc_wl_lt hk
    rw [mc_wl_get hl] at hk
    cases hk
    exact mc_adr_A hS hl
/-- a row was copied -/
theorem mc_S.cp {E : mc_H} {M : mc_M} {s : State} {H H1 : Heap} {locs locs1 : List Loc} {d : Nat} {g : Nat → Int32} (hS : mc_S E false M H) (hU : E.2.2.1 ≤ s.heap.size) (hV : va_S (mc_A E false) s.heap H locs) (hV1 : va_S (mc_A E false) s.heap H1 locs1) (hd : d < M.1) (h0 : (mc_ty d).1 = 0) (hP : va_P E.1 vwCl ((mc_wl E M).set d (mc_adr E d, .inl (E.2.1.1, (mc_ty d).2, .inl g))) H1) : mc_S E false (M.1, M.2.1, mc_row M.2.2 d g) H1 := by
  have h9 := hS.1.1
  refine ⟨hS.1, fun b hb => ?_, (fun h => by cases h), fun o ho => ?_, fun o ho => ?_⟩
  rotate_left
  · show mc_row M.2.2 d g 1000 o = _
    rw [mc_rown M.2.2 g (by omega)]; exact hS.2.2.2.1 o ho
  · show mc_row M.2.2 d g 1001 o = _
    rw [mc_rown M.2.2 g (by omega)]; exact hS.2.2.2.2 o ho
  show va_at E.1 vwCl (mc_adr E b, mc_cell E M.2.1 (mc_row M.2.2 d g) b) H1
  by_cases hbd : b = d
  · subst hbd
    rw [mc_cell0 h0, mc_rowa]
    refine hP b _ ?_
    rw [List.getElem?_set_self (by simpa [mc_wl] using hd)]
  · rw [mc_cell_congr (ρ := M.2.1) rfl (mc_rown M.2.2 g hbd)]
    refine hP b _ ?_
    rw [List.getElem?_set_ne (fun e => hbd e.symm)]
    exact mc_wl_get hb

/-! A SMALL MACHINE. Memory: how many cells there are (N), what references they hold (a cell, a place), what whole numbers they hold. The shape of each cell is one table for all the law (mc_ty, in the next part). -/
def mc_gd : Cond → Bool
  | .methodLinkNest _ _ _ _ => true
  | w => goodWord w
def mc_ws : List Cond := lw_tbl.filter mc_gd
def mc_has (i : Nat) (w : Cond) : Bool := decide (lw_tbl[i]? = some w) && mc_gd w
theorem mc_has_in {i : Nat} {w : Cond} (h : mc_has i w = true) : w ∈ mc_ws := by
  simp only [mc_has, Bool.and_eq_true, decide_eq_true_eq] at h
  exact List.mem_filter.mpr ⟨List.mem_of_getElem? h.1, h.2⟩
theorem mc_ws_tbl {w : Cond} (h : w ∈ mc_ws) : w ∈ lw_tbl := (List.mem_filter.mp h).1
/-- a word holds at every later state -/
theorem mc_pay {args : Array Value} {s : State} (hts : ∀ w ∈ mc_ws, w.before args s = true) : ∀ w ∈ mc_ws, ∀ (a' : Array Value) (U : State), s.WarmedH U.vm → w.before a' U = true := by
  intro w hw a' U hW
  have hg : mc_gd w = true := (List.mem_filter.mp hw).2
  have hb := hts w hw
  by_cases hgw : goodWord w = true
  · exact word_at hW (good_of_word hgw) hb
  · cases w with
    | methodLinkNest a i x h => exact va_Nw.use rfl (va_Nw.warmM hW (va_Nw.of rfl hb))
    | _ => exact absurd hg hgw
abbrev mc_V : Type := Int32 ⊕ Option Nat
abbrev mc_I : Type := Nat × Instr × Nat × List Nat
/-- a method: its name, code, most locals, answer; numbers (frames, locals, values that it takes, place of its code's word, place of its class's word); its instructions -/
abbrev mc_T : Type := MethodName × ByteArray × Nat × Option FieldType × List Nat × List mc_I
abbrev mc_M : Type := Nat × (Nat → Nat → Option Nat) × (Nat → Nat → Int32)
abbrev mc_N : Type := (Nat × List (Nat × mc_V) × List mc_V × mc_M) ⊕ (Option mc_V ⊕ (Nat × List mc_V × List mc_V))
def mc_up {α : Type} (f : Nat → Nat → α) (a k : Nat) (v : α) : Nat → Nat → α := fun b j => if b = a then (if j = k then v else f b j) else f b j
def mc_cl {α : Type} (f : Nat → Nat → α) (a : Nat) (v : α) : Nat → Nat → α := fun b j => if b = a then v else f b j
def mc_row {α : Type} (f : Nat → Nat → α) (a : Nat) (g : Nat → α) : Nat → Nat → α := fun b j => if b = a then g j else f b j
/-- where a comparison leads: to t if it holds, else to f -/
def mc_jmp (c : ClassFile.Cond) (x y : Int32) (t f : Nat) : Nat := match c with
  | .eq => if x = y then t else f
  | .ne => if x = y then f else t
  | .lt => if x < y then t else f
  | .ge => if x < y then f else t
  | .gt => if y < x then t else f
  | .le => if y < x then f else t
def mc_get (lo : List (Nat × mc_V)) (k : Nat) : Option mc_V := match lo with
  | [] => none
  | q :: r => if q.1 = k then some q.2 else mc_get r k
def mc_set (lo : List (Nat × mc_V)) (k : Nat) (v : mc_V) : List (Nat × mc_V) := (k, v) :: lo.filter (fun q => !(q.1 == k))
def mc_find (cd : List mc_I) (pc : Nat) : Option (Instr × Nat × List Nat) := match cd with
  | [] => none
  | q :: r => if q.1 = pc then some q.2 else mc_find r pc
def mc_lo : Nat → List mc_V → List (Nat × mc_V)
  | _, [] => []
  | i, v :: vs => (i, v) :: mc_lo (i + 1) vs

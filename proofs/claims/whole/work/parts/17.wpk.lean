def bI (b : Bool) : Int32 := if b = true then 1 else 0
theorem bI_01 (b : Bool) : bI b = 0 ∨ bI b = 1 := by cases b <;> simp [bI]
theorem bI_t : bI true = 1 := rfl
theorem bI_f : bI false = 0 := rfl
theorem bI_0 {b : Bool} : bI b = 0 ↔ b = false := by cases b <;> simp [bI]
theorem mc_inb_of {i : Int32} {n : Nat} (N : Int32) (hN : N.toInt = n) (h1 : ¬ i < 0) (h2 : i < N) : mc_inb i n = true := by
  have h3 : 0 ≤ i := Int32.not_lt.mp h1
  have h4 : 0 ≤ i.toInt := Int32.le_iff_toInt_le.mp h3
  have h5 := Int32.lt_iff_toInt_lt.mp h2
  have h6 : i.toNatClampNeg < n := by
    show i.toInt.toNat < n
    omega
  simp [mc_inb, h6, h3]
theorem mc_inb_nI {k n : Nat} (h : k < n) (hn : n < 2 ^ 31 := by decide) : mc_inb (nI k) n = true := by
  have h1 : ¬ nI k < 0 := nI_pos (by omega)
  have h2 : (nI k).toNatClampNeg = k := nI_clamp (by omega)
  have h3 : 0 ≤ nI k := Int32.not_lt.mp h1
  simp [mc_inb, h2, h, h3]
/-- a cell is a Cells object: its numbers lie in the cell behind it -/
def isC (a : Nat) : Prop := a < 187 ∧ (mc_ty a).1 = 3 + 2 ∧ (mc_ty a).2 = 2 ∧ rh0 a 0 = some (a + 1) ∧ a + 1 < 187 ∧ mc_ty (a + 1) = (0, 14)
/-- a cell is an Entries object -/
def isN (a : Nat) : Prop := a < 187 ∧ (mc_ty a).1 = 3 + 4 ∧ (mc_ty a).2 = 2 ∧ rh0 a 0 = some (a + 1) ∧ a + 1 < 187 ∧ mc_ty (a + 1) = (0, 8)
section WPK
variable {cd : List mc_I} {pc pc' : Nat} {lo lo' : List (Nat × mc_V)} {st st' : List mc_V} {σ σ' : mc_G} {Φ Ψ : Option mc_V → mc_G → Prop} {a idx p : Nat}
theorem Wp.beq {b : Bool} {t f : Nat} (k1 : b = false → Wp cd t lo st σ Φ) (k2 : b = true → Wp cd f lo st σ Φ) : Wp cd (mc_jmp .eq (bI b) 0 t f) lo st σ Φ := Wp.eq (fun h => k1 (bI_0.mp h)) (fun h => k2 (by cases b <;> simp [bI] at h ⊢))
theorem Wp.bne {b : Bool} {t f : Nat} (k1 : b = true → Wp cd t lo st σ Φ) (k2 : b = false → Wp cd f lo st σ Φ) : Wp cd (mc_jmp .ne (bI b) 0 t f) lo st σ Φ := Wp.ne (fun h => k1 (by cases b <;> simp [bI] at h ⊢)) (fun h => k2 (bI_0.mp h))
theorem Wp.gC0 (hC : isC a) (hf : mc_find cd pc = some (.getfield idx, 3, [2, 0, 2, p])) (k : Wp cd (pc + 3) lo (.inr (some (a + 1)) :: st) σ Φ) : Wp cd pc lo (.inr (some a) :: st) σ Φ := by
  refine Wp.go ?_ k
  unfold mc_stp
  rw [hf]
  show (if a < 187 ∧ (mc_ty a).1 = 3 + 2 ∧ 0 < (mc_ty a).2 then mc_go (pc + 3) lo (.inr (rh0 a 0) :: st) (187, rh0, σ) else none) = _
  rw [if_pos ⟨hC.1, hC.2.1, by rw [hC.2.2.1]; decide⟩, hC.2.2.2.1]
  rfl
theorem Wp.gC1 (hC : isC a) (hf : mc_find cd pc = some (.getfield idx, 3, [2, 1, 0, p])) (k : Wp cd (pc + 3) lo (.inl (σ a 1) :: st) σ Φ) : Wp cd pc lo (.inr (some a) :: st) σ Φ := by
  refine Wp.go ?_ k
  unfold mc_stp
  rw [hf]
  show (if a < 187 ∧ (mc_ty a).1 = 3 + 2 ∧ 1 < (mc_ty a).2 then mc_go (pc + 3) lo (.inl (σ a 1) :: st) (187, rh0, σ) else none) = _
  rw [if_pos ⟨hC.1, hC.2.1, by rw [hC.2.2.1]; decide⟩]
  rfl
theorem Wp.pC1 {x : Int32} (hC : isC a) (hf : mc_find cd pc = some (.putfield idx, 3, [2, 1, 0, p, 0])) (k : Wp cd (pc + 3) lo st (mc_up σ a 1 x) Φ) : Wp cd pc lo (.inl x :: .inr (some a) :: st) σ Φ := by
  refine Wp.go ?_ k
  unfold mc_stp
  rw [hf]
  show (if a < 187 ∧ (mc_ty a).1 = 3 + 2 ∧ 1 < (mc_ty a).2 ∧ ((0 : Nat) = 0 ∨ (0 : Nat) = 1 ∧ (x = 0 ∨ x = 1)) then mc_go (pc + 3) lo st (187, rh0, mc_up σ a 1 x) else none) = _
  rw [if_pos ⟨hC.1, hC.2.1, by rw [hC.2.2.1]; decide, Or.inl rfl⟩]
  rfl
theorem Wp.ldC {i : Int32} (hC : isC a) (hf : mc_find cd pc = some (.iaload, 1, [])) (hin : mc_inb i 14 = true) (k : Wp cd (pc + 1) lo (.inl (σ (a + 1) i.toNatClampNeg) :: st) σ Φ) : Wp cd pc lo (.inl i :: .inr (some (a + 1)) :: st) σ Φ := by
  refine Wp.go ?_ k
  unfold mc_stp
  rw [hf]
  show (if mc_rd 187 (a + 1) = true ∧ (mc_ty (a + 1)).1 = 0 ∧ mc_inb i (mc_ty (a + 1)).2 = true then mc_go (pc + 1) lo (.inl (σ (a + 1) i.toNatClampNeg) :: st) (187, rh0, σ) else none) = _
  rw [if_pos ⟨mc_rd_lt hC.2.2.2.2.1, by rw [hC.2.2.2.2.2], by rw [hC.2.2.2.2.2]; exact hin⟩]
  rfl
theorem Wp.stC {i x : Int32} (hC : isC a) (hf : mc_find cd pc = some (.iastore, 1, [])) (hin : mc_inb i 14 = true) (k : Wp cd (pc + 1) lo st (mc_up σ (a + 1) i.toNatClampNeg x) Φ) : Wp cd pc lo (.inl x :: .inl i :: .inr (some (a + 1)) :: st) σ Φ := by
  refine Wp.go ?_ k
  unfold mc_stp
  rw [hf]
  show (if a + 1 < 187 ∧ (mc_ty (a + 1)).1 = 0 ∧ mc_inb i (mc_ty (a + 1)).2 = true then mc_go (pc + 1) lo st (187, rh0, mc_up σ (a + 1) i.toNatClampNeg x) else none) = _
  rw [if_pos ⟨hC.2.2.2.2.1, by rw [hC.2.2.2.2.2], by rw [hC.2.2.2.2.2]; exact hin⟩]
  rfl
theorem Wp.gN0 (hC : isN a) (hf : mc_find cd pc = some (.getfield idx, 3, [4, 0, 2, p])) (k : Wp cd (pc + 3) lo (.inr (some (a + 1)) :: st) σ Φ) : Wp cd pc lo (.inr (some a) :: st) σ Φ := by
  refine Wp.go ?_ k
  unfold mc_stp
  rw [hf]
  show (if a < 187 ∧ (mc_ty a).1 = 3 + 4 ∧ 0 < (mc_ty a).2 then mc_go (pc + 3) lo (.inr (rh0 a 0) :: st) (187, rh0, σ) else none) = _
  rw [if_pos ⟨hC.1, hC.2.1, by rw [hC.2.2.1]; decide⟩, hC.2.2.2.1]
  rfl
theorem Wp.gN1 (hC : isN a) (hf : mc_find cd pc = some (.getfield idx, 3, [4, 1, 0, p])) (k : Wp cd (pc + 3) lo (.inl (σ a 1) :: st) σ Φ) : Wp cd pc lo (.inr (some a) :: st) σ Φ := by
  refine Wp.go ?_ k
  unfold mc_stp
  rw [hf]
  show (if a < 187 ∧ (mc_ty a).1 = 3 + 4 ∧ 1 < (mc_ty a).2 then mc_go (pc + 3) lo (.inl (σ a 1) :: st) (187, rh0, σ) else none) = _
  rw [if_pos ⟨hC.1, hC.2.1, by rw [hC.2.2.1]; decide⟩]
  rfl
theorem Wp.pN1 {x : Int32} (hC : isN a) (hf : mc_find cd pc = some (.putfield idx, 3, [4, 1, 0, p, 0])) (k : Wp cd (pc + 3) lo st (mc_up σ a 1 x) Φ) : Wp cd pc lo (.inl x :: .inr (some a) :: st) σ Φ := by
  refine Wp.go ?_ k
  unfold mc_stp
  rw [hf]
  show (if a < 187 ∧ (mc_ty a).1 = 3 + 4 ∧ 1 < (mc_ty a).2 ∧ ((0 : Nat) = 0 ∨ (0 : Nat) = 1 ∧ (x = 0 ∨ x = 1)) then mc_go (pc + 3) lo st (187, rh0, mc_up σ a 1 x) else none) = _
  rw [if_pos ⟨hC.1, hC.2.1, by rw [hC.2.2.1]; decide, Or.inl rfl⟩]
  rfl
theorem Wp.ldN {i : Int32} (hC : isN a) (hf : mc_find cd pc = some (.iaload, 1, [])) (hin : mc_inb i 8 = true) (k : Wp cd (pc + 1) lo (.inl (σ (a + 1) i.toNatClampNeg) :: st) σ Φ) : Wp cd pc lo (.inl i :: .inr (some (a + 1)) :: st) σ Φ := by
  refine Wp.go ?_ k
  unfold mc_stp
  rw [hf]
  show (if mc_rd 187 (a + 1) = true ∧ (mc_ty (a + 1)).1 = 0 ∧ mc_inb i (mc_ty (a + 1)).2 = true then mc_go (pc + 1) lo (.inl (σ (a + 1) i.toNatClampNeg) :: st) (187, rh0, σ) else none) = _
  rw [if_pos ⟨mc_rd_lt hC.2.2.2.2.1, by rw [hC.2.2.2.2.2], by rw [hC.2.2.2.2.2]; exact hin⟩]
  rfl
theorem Wp.stN {i x : Int32} (hC : isN a) (hf : mc_find cd pc = some (.iastore, 1, [])) (hin : mc_inb i 8 = true) (k : Wp cd (pc + 1) lo st (mc_up σ (a + 1) i.toNatClampNeg x) Φ) : Wp cd pc lo (.inl x :: .inl i :: .inr (some (a + 1)) :: st) σ Φ := by
  refine Wp.go ?_ k
  unfold mc_stp
  rw [hf]
  show (if a + 1 < 187 ∧ (mc_ty (a + 1)).1 = 0 ∧ mc_inb i (mc_ty (a + 1)).2 = true then mc_go (pc + 1) lo st (187, rh0, mc_up σ (a + 1) i.toNatClampNeg x) else none) = _
  rw [if_pos ⟨hC.2.2.2.2.1, by rw [hC.2.2.2.2.2], by rw [hC.2.2.2.2.2]; exact hin⟩]
  rfl
end WPK
theorem isC_row {k : Nat} (h : k < 30) : isC (22 + 2 * k) := by
  have hall : ∀ k, k < 30 → 22 + 2 * k < 187 ∧ (mc_ty (22 + 2 * k)).1 = 3 + 2 ∧ (mc_ty (22 + 2 * k)).2 = 2 ∧ rh0 (22 + 2 * k) 0 = some (22 + 2 * k + 1) ∧ 22 + 2 * k + 1 < 187 ∧ mc_ty (22 + 2 * k + 1) = (0, 14) := by decide +kernel
  exact hall k h
theorem isC_giv {k : Nat} (h : k < 30) : isC (94 + 2 * k) := by
  have hall : ∀ k, k < 30 → 94 + 2 * k < 187 ∧ (mc_ty (94 + 2 * k)).1 = 3 + 2 ∧ (mc_ty (94 + 2 * k)).2 = 2 ∧ rh0 (94 + 2 * k) 0 = some (94 + 2 * k + 1) ∧ 94 + 2 * k + 1 < 187 ∧ mc_ty (94 + 2 * k + 1) = (0, 14) := by decide +kernel
  exact hall k h
theorem isC_11 : isC 11 := by unfold isC; decide +kernel
theorem isC_20 : isC 20 := by unfold isC; decide +kernel
theorem isC_84 : isC 84 := by unfold isC; decide +kernel
theorem isC_92 : isC 92 := by unfold isC; decide +kernel
theorem isC_163 : isC 163 := by unfold isC; decide +kernel
theorem isC_165 : isC 165 := by unfold isC; decide +kernel
theorem isN_156 : isN 156 := by unfold isN; decide +kernel
theorem isN_158 : isN 158 := by unfold isN; decide +kernel
theorem isN_160 : isN 160 := by unfold isN; decide +kernel

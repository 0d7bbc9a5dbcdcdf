theorem nE_add {x y : Int32} {a b : Nat} (hx : x = nI a) (hy : y = nI b) : x + y = nI (a + b) := by rw [hx, hy, nI_add]
theorem nE_sub {x y : Int32} {a b : Nat} (hx : x = nI a) (hy : y = nI b) (h : b ≤ a) : x - y = nI (a - b) := by rw [hx, hy, pk_sub h]
theorem nE_mul {x y : Int32} {a b : Nat} (hx : x = nI a) (hy : y = nI b) : x * y = nI (a * b) := by rw [hx, hy, pk_mul]
theorem iE_add {x y u v : Int32} (hx : x = u) (hy : y = v) : x + y = u + v := by rw [hx, hy]
theorem iE_sub {x y u v : Int32} (hx : x = u) (hy : y = v) : x - y = u - v := by rw [hx, hy]
theorem iE_mul {x y u v : Int32} (hx : x = u) (hy : y = v) : x * y = u * v := by rw [hx, hy]
theorem iE_and {x y u v : Int32} (hx : x = u) (hy : y = v) : x &&& y = u &&& v := by rw [hx, hy]
theorem iE_or {x y u v : Int32} (hx : x = u) (hy : y = v) : x ||| y = u ||| v := by rw [hx, hy]
theorem iE_shl {x y u v : Int32} (hx : x = u) (hy : y = v) : x <<< (y &&& 31) = u <<< (v &&& 31) := by rw [hx, hy]
theorem iE_shr {x y u v : Int32} (hx : x = u) (hy : y = v) : x >>> (y &&& 31) = u >>> (v &&& 31) := by rw [hx, hy]
theorem bE_01 {x : Int32} {b : Bool} (h : x = bI b) : x = 0 ∨ x = 1 := by rw [h]; exact bI_01 b
theorem rdE {f : Nat → Int32} {x v : Int32} {a : Nat} (hx : x = nI a) (ha : a < 2 ^ 31) (h : f a = v) : f x.toNatClampNeg = v := by rw [hx, nI_clamp ha]; exact h
theorem clE {x : Int32} {a : Nat} (hx : x = nI a) (ha : a < 2 ^ 31) : x.toNatClampNeg = a := by rw [hx, nI_clamp ha]
theorem inE {x : Int32} {a n : Nat} (hx : x = nI a) (h : a < n) (hn : n < 2 ^ 31 := by decide) : mc_inb x n = true := by rw [hx]; exact mc_inb_nI h hn
section WPN
variable {cd : List mc_I} {lo : List (Nat × mc_V)} {st : List mc_V} {σ : mc_G} {Φ : Option mc_V → mc_G → Prop} {x y : Int32} {t f : Nat}
theorem Wp.beqE {b : Bool} (hx : x = bI b) (k1 : b = false → Wp cd t lo st σ Φ) (k2 : b = true → Wp cd f lo st σ Φ) : Wp cd (mc_jmp .eq x 0 t f) lo st σ Φ := by rw [hx]; exact Wp.beq k1 k2
theorem Wp.bneE {b : Bool} (hx : x = bI b) (k1 : b = true → Wp cd t lo st σ Φ) (k2 : b = false → Wp cd f lo st σ Φ) : Wp cd (mc_jmp .ne x 0 t f) lo st σ Φ := by rw [hx]; exact Wp.bne k1 k2
theorem Wp.beqD {p : Prop} [Decidable p] (hx : x = bI (decide p)) (k1 : ¬ p → Wp cd t lo st σ Φ) (k2 : p → Wp cd f lo st σ Φ) : Wp cd (mc_jmp .eq x 0 t f) lo st σ Φ := Wp.beqE hx (fun h => k1 (of_decide_eq_false h)) (fun h => k2 (of_decide_eq_true h))
theorem Wp.bneD {p : Prop} [Decidable p] (hx : x = bI (decide p)) (k1 : p → Wp cd t lo st σ Φ) (k2 : ¬ p → Wp cd f lo st σ Φ) : Wp cd (mc_jmp .ne x 0 t f) lo st σ Φ := Wp.bneE hx (fun h => k1 (of_decide_eq_true h)) (fun h => k2 (of_decide_eq_false h))
variable {u v : Int32}
theorem Wp.eqI (hx : x = u) (hy : y = v) (k1 : u = v → Wp cd t lo st σ Φ) (k2 : ¬ u = v → Wp cd f lo st σ Φ) : Wp cd (mc_jmp .eq x y t f) lo st σ Φ := by rw [hx, hy]; exact Wp.eq k1 k2
theorem Wp.neI (hx : x = u) (hy : y = v) (k1 : ¬ u = v → Wp cd t lo st σ Φ) (k2 : u = v → Wp cd f lo st σ Φ) : Wp cd (mc_jmp .ne x y t f) lo st σ Φ := by rw [hx, hy]; exact Wp.ne k1 k2
theorem Wp.ltI (hx : x = u) (hy : y = v) (k1 : u < v → Wp cd t lo st σ Φ) (k2 : ¬ u < v → Wp cd f lo st σ Φ) : Wp cd (mc_jmp .lt x y t f) lo st σ Φ := by rw [hx, hy]; exact Wp.lt k1 k2
theorem Wp.geI (hx : x = u) (hy : y = v) (k1 : ¬ u < v → Wp cd t lo st σ Φ) (k2 : u < v → Wp cd f lo st σ Φ) : Wp cd (mc_jmp .ge x y t f) lo st σ Φ := by rw [hx, hy]; exact Wp.ge k1 k2
theorem Wp.gtI (hx : x = u) (hy : y = v) (k1 : v < u → Wp cd t lo st σ Φ) (k2 : ¬ v < u → Wp cd f lo st σ Φ) : Wp cd (mc_jmp .gt x y t f) lo st σ Φ := by rw [hx, hy]; exact Wp.gt k1 k2
theorem Wp.leI (hx : x = u) (hy : y = v) (k1 : ¬ v < u → Wp cd t lo st σ Φ) (k2 : v < u → Wp cd f lo st σ Φ) : Wp cd (mc_jmp .le x y t f) lo st σ Φ := by rw [hx, hy]; exact Wp.le k1 k2
variable {a b : Nat}
theorem Wp.eqN (hx : x = nI a) (hy : y = nI b) (ha : a < 2 ^ 31) (hb : b < 2 ^ 31) (k1 : a = b → Wp cd t lo st σ Φ) (k2 : ¬ a = b → Wp cd f lo st σ Φ) : Wp cd (mc_jmp .eq x y t f) lo st σ Φ := Wp.eqI hx hy (fun h => k1 ((nI_eq ha hb).mp h)) (fun h => k2 (fun q => h ((nI_eq ha hb).mpr q)))
theorem Wp.neN (hx : x = nI a) (hy : y = nI b) (ha : a < 2 ^ 31) (hb : b < 2 ^ 31) (k1 : ¬ a = b → Wp cd t lo st σ Φ) (k2 : a = b → Wp cd f lo st σ Φ) : Wp cd (mc_jmp .ne x y t f) lo st σ Φ := Wp.neI hx hy (fun h => k1 (fun q => h ((nI_eq ha hb).mpr q))) (fun h => k2 ((nI_eq ha hb).mp h))
theorem Wp.ltN (hx : x = nI a) (hy : y = nI b) (ha : a < 2 ^ 31) (hb : b < 2 ^ 31) (k1 : a < b → Wp cd t lo st σ Φ) (k2 : ¬ a < b → Wp cd f lo st σ Φ) : Wp cd (mc_jmp .lt x y t f) lo st σ Φ := Wp.ltI hx hy (fun h => k1 ((nI_ltI ha hb).mp h)) (fun h => k2 (fun q => h ((nI_ltI ha hb).mpr q)))
theorem Wp.geN (hx : x = nI a) (hy : y = nI b) (ha : a < 2 ^ 31) (hb : b < 2 ^ 31) (k1 : ¬ a < b → Wp cd t lo st σ Φ) (k2 : a < b → Wp cd f lo st σ Φ) : Wp cd (mc_jmp .ge x y t f) lo st σ Φ := Wp.geI hx hy (fun h => k1 (fun q => h ((nI_ltI ha hb).mpr q))) (fun h => k2 ((nI_ltI ha hb).mp h))
theorem Wp.gtN (hx : x = nI a) (hy : y = nI b) (ha : a < 2 ^ 31) (hb : b < 2 ^ 31) (k1 : b < a → Wp cd t lo st σ Φ) (k2 : ¬ b < a → Wp cd f lo st σ Φ) : Wp cd (mc_jmp .gt x y t f) lo st σ Φ := Wp.gtI hx hy (fun h => k1 ((nI_ltI hb ha).mp h)) (fun h => k2 (fun q => h ((nI_ltI hb ha).mpr q)))
theorem Wp.leN (hx : x = nI a) (hy : y = nI b) (ha : a < 2 ^ 31) (hb : b < 2 ^ 31) (k1 : ¬ b < a → Wp cd t lo st σ Φ) (k2 : b < a → Wp cd f lo st σ Φ) : Wp cd (mc_jmp .le x y t f) lo st σ Φ := Wp.leI hx hy (fun h => k1 (fun q => h ((nI_ltI hb ha).mpr q))) (fun h => k2 ((nI_ltI hb ha).mp h))
end WPN
theorem rvN {x : Int32} {a b : Nat} (hx : x = nI a) (h : a = b) : (some (Sum.inl x) : Option mc_V) = some (.inl (nI b)) := by rw [hx, h]
theorem rvB {x : Int32} {a b : Bool} (hx : x = bI a) (h : a = b) : (some (Sum.inl x) : Option mc_V) = some (.inl (bI b)) := by rw [hx, h]
theorem rvI {x u v : Int32} (hx : x = u) (h : u = v) : (some (Sum.inl x) : Option mc_V) = some (.inl v) := by rw [hx, h]
theorem rv1 {b : Bool} (h : b = true) : (some (Sum.inl (1 : Int32)) : Option mc_V) = some (.inl (bI b)) := by rw [h]; rfl
theorem rv0 {b : Bool} (h : b = false) : (some (Sum.inl (0 : Int32)) : Option mc_V) = some (.inl (bI b)) := by rw [h]; rfl

theorem nE_add {x y : Int32} {a b : Nat} (hx : x = nI a) (hy : y = nI b) : x + y = nI (a + b) := by rw [hx, hy, nI_add]
theorem nE_sub {x y : Int32} {a b : Nat} (hx : x = nI a) (hy : y = nI b) (h : b ≤ a) : x - y = nI (a - b) := by rw [hx, hy, pk_sub h]
theorem nE_mul {x y : Int32} {a b : Nat} (hx : x = nI a) (hy : y = nI b) : x * y = nI (a * b) := by rw [hx, hy, pk_mul]
theorem iE_add {x y u v : Int32} (hx : x = u) (hy : y = v) : x + y = u + v := by rw [hx, hy]
theorem iE_sub {x y u v : Int32} (hx : x = u) (hy : y = v) : x - y = u - v := by rw [hx, hy]
theorem iE_mul {x y u v : Int32} (hx : x = u) (hy : y = v) : x * y = u * v := by rw [hx, hy]
theorem iE_and {x y u v : Int32} (hx : x = u) (hy : y = v) : x &&& y = u &&& v := by rw [hx, hy]
theorem iE_or {x y u v : Int32} (hx : x = u) (hy : y = v) : x ||| y = u ||| v := by rw [hx, hy]
theorem iE_shl {x y u v : Int32} (hx : x = u) (hy : y = v) : x <<< (y &&& 31) = u <<< (v &&& 31) := by rw [hx, hy]
theorem iE_shr {x y u v : Int32} (hx : x = u) (hy : y = v) : x >>> (y &&& 31) = u >>> (v &&& 31) := by rw [hx, hy]
theorem bE_01 {x : Int32} {b : Bool} (h : x = bI b) : x = 0 ∨ x = 1 := by rw [h]; exact bI_01 b
theorem rdE {f : Nat → Int32} {x v : Int32} {a : Nat} (hx : x = nI a) (ha : a < 2 ^ 31) (h : f a = v) : f x.toNatClampNeg = v := by rw [hx, nI_clamp ha]; exact h
theorem clE {x : Int32} {a : Nat} (hx : x = nI a) (ha : a < 2 ^ 31) : x.toNatClampNeg = a := by rw [hx, nI_clamp ha]
theorem inE {x : Int32} {a n : Nat} (hx : x = nI a) (h : a < n) (hn : n < 2 ^ 31 := by decide) : mc_inb x n = true := by rw [hx]; exact mc_inb_nI h hn
section WPN
variable {cd : List mc_I} {lo : List (Nat × mc_V)} {st : List mc_V} {σ : mc_G} {Φ : Option mc_V → mc_G → Prop} {x y : Int32} {t f : Nat}
theorem Wp.beqE {b : Bool} (hx : x = bI b) (k1 : b = false → Wp cd t lo st σ Φ) (k2 : b = true → Wp cd f lo st σ Φ) : Wp cd (mc_jmp .eq x 0 t f) lo st σ Φ := by rw [hx]; exact Wp.beq k1 k2
theorem Wp.bneE {b : Bool} (hx : x = bI b) (k1 : b = true → Wp cd t lo st σ Φ) (k2 : b = false → Wp cd f lo st σ Φ) : Wp cd (mc_jmp .ne x 0 t f) lo st σ Φ := by rw [hx]; exact Wp.bne k1 k2
theorem Wp.beqD {p : Prop} [Decidable p] (hx : x = bI (decide p)) (k1 : ¬ p → Wp cd t lo st σ Φ) (k2 : p → Wp cd f lo st σ Φ) : Wp cd (mc_jmp .eq x 0 t f) lo st σ Φ := Wp.beqE hx (fun h => k1 (of_decide_eq_false h)) (fun h => k2 (of_decide_eq_true h))
theorem Wp.bneD {p : Prop} [Decidable p] (hx : x = bI (decide p)) (k1 : p → Wp cd t lo st σ Φ) (k2 : ¬ p → Wp cd f lo st σ Φ) : Wp cd (mc_jmp .ne x 0 t f) lo st σ Φ := Wp.bneE hx (fun h => k1 (of_decide_eq_true h)) (fun h => k2 (of_decide_eq_false h))
variable {u v : Int32}
theorem Wp.eqI (hx : x = u) (hy : y = v) (k1 : u = v → Wp cd t lo st σ Φ) (k2 : ¬ u = v → Wp cd f lo st σ Φ) : Wp cd (mc_jmp .eq x y t f) lo st σ Φ := by rw [hx, hy]; exact Wp.eq k1 k2
theorem Wp.neI (hx : x = u) (hy : y = v) (k1 : ¬ u = v → Wp cd t lo st σ Φ) (k2 : u = v → Wp cd f lo st σ Φ) : Wp cd (mc_jmp .ne x y t f) lo st σ Φ := by rw [hx, hy]; exact Wp.ne k1 k2
theorem Wp.ltI (hx : x = u) (hy : y = v) (k1 : u < v → Wp cd t lo st σ Φ) (k2 : ¬ u < v → Wp cd f lo st σ Φ) : Wp cd (mc_jmp .lt x y t f) lo st σ Φ := by rw [hx, hy]; exact Wp.lt k1 k2
theorem Wp.geI (hx : x = u) (hy : y = v) (k1 : ¬ u < v → Wp cd t lo st σ Φ) (k2 : u < v → Wp cd f lo st σ Φ) : Wp cd (mc_jmp .ge x y t f) lo st σ Φ := by rw [hx, hy]; exact Wp.ge k1 k2
theorem Wp.gtI (hx : x = u) (hy : y = v) (k1 : v < u → Wp cd t lo st σ Φ) (k2 : ¬ v < u → Wp cd f lo st σ Φ) : Wp cd (mc_jmp .gt x y t f) lo st σ Φ := by rw [hx, hy]; exact Wp.gt k1 k2
theorem Wp.leI (hx : x = u) (hy : y = v) (k1 : ¬ v < u → Wp cd t lo st σ Φ) (k2 : v < u → Wp cd f lo st σ Φ) : Wp cd (mc_jmp .le x y t f) lo st σ Φ := by rw [hx, hy]; exact Wp.le k1 k2
variable {a b : Nat}
theorem Wp.eqN (hx : x = nI a) (hy : y = nI b) (ha : a < 2 ^ 31) (hb : b < 2 ^ 31) (k1 : a = b → Wp cd t lo st σ Φ) (k2 : ¬ a = b → Wp cd f lo st σ Φ) : Wp cd (mc_jmp .eq x y t f) lo st σ Φ := Wp.eqI hx hy (fun h => k1 ((nI_eq ha hb).mp h)) (fun h => k2 (fun q => h ((nI_eq ha hb).mpr q)))
theorem Wp.neN (hx : x = nI a) (hy : y = nI b) (ha : a < 2 ^ 31) (hb : b < 2 ^ 31) (k1 : ¬ a = b → Wp cd t lo st σ Φ) (k2 : a = b → Wp cd f lo st σ Φ) : Wp cd (mc_jmp .ne x y t f) lo st σ Φ := Wp.neI hx hy (fun h => k1 (fun q => h ((nI_eq ha hb).mpr q))) (fun h => k2 ((nI_eq ha hb).mp h))
theorem Wp.ltN (hx : x = nI a) (hy : y = nI b) (ha : a < 2 ^ 31) (hb : b < 2 ^ 31) (k1 : a < b → Wp cd t lo st σ Φ) (k2 : ¬ a < b → Wp cd f lo st σ Φ) : Wp cd (mc_jmp .lt x y t f) lo st σ Φ := Wp.ltI hx hy (fun h => k1 ((nI_ltI ha hb).mp h)) (fun h => k2 (fun q => h ((nI_ltI ha hb).mpr q)))
theorem Wp.geN (hx : x = nI a) (hy : y = nI b) (ha : a < 2 ^ 31) (hb : b < 2 ^ 31) (k1 : ¬ a < b → Wp cd t lo st σ Φ) (k2 : a < b → Wp cd f lo st σ Φ) : Wp cd (mc_jmp .ge x y t f) lo st σ Φ := Wp.geI hx hy (fun h => k1 (fun q => h ((nI_ltI ha hb).mpr q))) (fun h => k2 ((nI_ltI ha hb).mp h))
theorem Wp.gtN (hx : x = nI a) (hy : y = nI b) (ha : a < 2 ^ 31) (hb : b < 2 ^ 31) (k1 : b < a → Wp cd t lo st σ Φ) (k2 : ¬ b < a → Wp cd f lo st σ Φ) : Wp cd (mc_jmp .gt x y t f) lo st σ Φ := Wp.gtI hx hy (fun h => k1 ((nI_ltI hb ha).mp h)) (fun h => k2 (fun q => h ((nI_ltI hb ha).mpr q)))
theorem Wp.leN (hx : x = nI a) (hy : y = nI b) (ha : a < 2 ^ 31) (hb : b < 2 ^ 31) (k1 : ¬ b < a → Wp cd t lo st σ Φ) (k2 : b < a → Wp cd f lo st σ Φ) : Wp cd (mc_jmp .le x y t f) lo st σ Φ := Wp.leI hx hy (fun h => k1 (fun q => h ((nI_ltI hb ha).mpr q))) (fun h => k2 ((nI_ltI hb ha).mp h))
end WPN
theorem rvN {x : Int32} {a b : Nat} (hx : x = nI a) (h : a = b) : (some (Sum.inl x) : Option mc_V) = some (.inl (nI b)) := by rw [hx, h]
theorem rvB {x : Int32} {a b : Bool} (hx : x = bI a) (h : a = b) : (some (Sum.inl x) : Option mc_V) = some (.inl (bI b)) := by rw [hx, h]
theorem rvI {x u v : Int32} (hx : x = u) (h : u = v) : (some (Sum.inl x) : Option mc_V) = some (.inl v) := by rw [hx, h]
theorem rv1 {b : Bool} (h : b = true) : (some (Sum.inl (1 : Int32)) : Option mc_V) = some (.inl (bI b)) := by rw [h]; rfl
theorem rv0 {b : Bool} (h : b = false) : (some (Sum.inl (0 : Int32)) : Option mc_V) = some (.inl (bI b)) := by rw [h]; rfl
/-! more locals do no harm -/
def mc_sub (lo lo' : List (Nat × mc_V)) : Prop := match lo with
  | [] => True
  | q :: r => mc_get lo' q.1 = some q.2 ∧ mc_sub r lo'
def mc_ext (lo lo' : List (Nat × mc_V)) : Prop := ∀ k v, mc_get lo k = some v → mc_get lo' k = some v
theorem mc_sub_mem : ∀ {lo lo' : List (Nat × mc_V)}, mc_sub lo lo' → ∀ q ∈ lo, mc_get lo' q.1 = some q.2
  | [], _, _, q, hq => absurd hq List.not_mem_nil
  | x :: r, lo', h, q, hq => by
    rcases List.mem_cons.mp hq with rfl | hq
    · exact h.1
    · exact mc_sub_mem h.2 q hq
theorem mc_sub_ext {lo lo' : List (Nat × mc_V)} (h : mc_sub lo lo') : mc_ext lo lo' := fun k v hk => mc_sub_mem h (k, v) (mc_get_mem hk)
theorem mc_get_filter {lo : List (Nat × mc_V)} {k j : Nat} (h : ¬ j = k) : mc_get (lo.filter (fun q => !(q.1 == k))) j = mc_get lo j := by
  induction lo with
  | nil => rfl
  | cons q r ih =>
    rw [List.filter_cons]
    by_cases hq : q.1 = k
    · rw [if_neg (by simp [hq]), ih]
      show _ = if q.1 = j then some q.2 else mc_get r j
      rw [if_neg (fun e => h (by omega))]
    · rw [if_pos (by simpa using hq)]
      show (if q.1 = j then some q.2 else _) = if q.1 = j then some q.2 else _
      rw [ih]
theorem mc_get_set {lo : List (Nat × mc_V)} {k j : Nat} {v : mc_V} : mc_get (mc_set lo k v) j = if j = k then some v else mc_get lo j := by
  show (if k = j then some v else mc_get (lo.filter _) j) = _
  by_cases h : j = k
  · rw [if_pos h.symm, if_pos h]
  · rw [if_neg (fun e => h e.symm), if_neg h, mc_get_filter h]
theorem mc_ext_set {lo lo' : List (Nat × mc_V)} {k : Nat} {v : mc_V} (h : mc_ext lo lo') : mc_ext (mc_set lo k v) (mc_set lo' k v) := by
  intro j w hj
  rw [mc_get_set] at hj ⊢
  split
  · rename_i e
    rw [if_pos e] at hj; exact hj
  · rename_i e
    rw [if_neg e] at hj; exact h _ _ hj
set_option maxHeartbeats 4000000 in
theorem mc_do_ext {al : Bool} {i : Instr} {len : Nat} {rr : List Nat} {pc : Nat} {lo lo' : List (Nat × mc_V)} {st : List mc_V} {M : mc_M} (he : mc_ext lo lo') {z : Nat × List (Nat × mc_V) × List mc_V × mc_M} (h : mc_do al i len rr pc lo st M = some (.inl z)) : ∃ lo2, mc_do al i len rr pc lo' st M = some (.inl (z.1, lo2, z.2.2.1, z.2.2.2)) ∧ mc_ext z.2.1 lo2 := by
  unfold mc_do at h
  split at h
  case h_6 => (split at h; (rename_i hg; cases h; have := he _ _ hg; exact ⟨lo', by simp only [mc_do, this]; rfl, he⟩); cases h)
  case h_7 => (split at h; (rename_i hg; cases h; have := he _ _ hg; exact ⟨lo', by simp only [mc_do, this]; rfl, he⟩); cases h)
  case h_8 => (split at h; (rename_i hg; cases h; have := he _ _ hg; exact ⟨lo', by simp only [mc_do, this]; rfl, he⟩); cases h)
  case h_9 => (split at h; (rename_i hg; cases h; have := he _ _ hg; exact ⟨lo', by simp only [mc_do, this]; rfl, he⟩); cases h)
  case h_14 => (split at h; (rename_i hg; cases h; have := he _ _ hg; exact ⟨_, by simp only [mc_do, this]; rfl, mc_ext_set he⟩); cases h)
  case h_10 => (cases h; exact ⟨_, rfl, mc_ext_set he⟩)
  case h_11 => (cases h; exact ⟨_, rfl, mc_ext_set he⟩)
  case h_12 => (cases h; exact ⟨_, rfl, mc_ext_set he⟩)
  case h_13 => (cases h; exact ⟨_, rfl, mc_ext_set he⟩)
  case h_45 => (split at h; (split at h <;> cases h); cases h)
  case h_46 =>
    split at h
    · rename_i h9
      split at h
      · split at h
        · rename_i h8; cases h; exact ⟨lo', by simp only [mc_do, h9, if_true, h8]; rfl, he⟩
        · cases h
      · cases h
    · rename_i n90
      split at h
      · rename_i h9
        split at h
        · split at h
          · rename_i h8; cases h; exact ⟨lo', by simp only [mc_do, h9, if_true, if_false, h8, show ¬ (9991 : Nat) = 9990 by decide]; rfl, he⟩
          · cases h
        · cases h
      · rename_i n91
        split at h
        · rename_i h9
          split at h
          · split at h
            · rename_i h8; cases h; exact ⟨lo', by simp only [mc_do, h9, if_true, if_false, h8, show ¬ (9992 : Nat) = 9990 by decide, show ¬ (9992 : Nat) = 9991 by decide]; rfl, he⟩
            · cases h
          · cases h
        · rename_i n92
          split at h
          · rename_i h9
            split at h
            · split at h
              · rename_i h8; cases h; exact ⟨lo', by simp only [mc_do, h9, if_true, if_false, if_pos h8, show ¬ (9999 : Nat) = 9990 by decide, show ¬ (9999 : Nat) = 9991 by decide, show ¬ (9999 : Nat) = 9992 by decide]; rfl, he⟩
              · cases h
            · cases h
          · split at h <;> cases h
  case h_47 =>
    split at h
    · rename_i h9
      split at h
      · cases h; exact ⟨lo', by simp only [mc_do, h9, if_true]; rfl, he⟩
      · cases h
    · split at h
      · split at h <;> cases h
      · cases h
  case h_48 => (split at h <;> cases h)
  all_goals first
    | (cases h; exact ⟨lo', rfl, he⟩)
    | (split at h; (rename_i hc; cases h; exact ⟨lo', if_pos hc, he⟩); cases h)
    | cases h
set_option maxHeartbeats 4000000 in
theorem mc_do_exr {al : Bool} {i : Instr} {len : Nat} {rr : List Nat} {pc : Nat} {lo : List (Nat × mc_V)} (lo' : List (Nat × mc_V)) {st : List mc_V} {M : mc_M} {w : Option mc_V ⊕ (Nat × List mc_V × List mc_V)} (h : mc_do al i len rr pc lo st M = some (.inr w)) : mc_do al i len rr pc lo' st M = some (.inr w) := by
  unfold mc_do at h
  split at h
  case h_45 => exact h
  case h_46 =>
    simp only [mc_do]
    split at h
    · split at h
      · split at h <;> cases h
      · cases h
    · rename_i n90
      rw [if_neg n90]
      split at h
      · split at h
        · split at h <;> cases h
        · cases h
      · rename_i n91
        rw [if_neg n91]
        split at h
        · split at h
          · split at h <;> cases h
          · cases h
        · rename_i n92
          rw [if_neg n92]
          split at h
          · split at h
            · split at h <;> cases h
            · cases h
          · rename_i n99
            rw [if_neg n99]
            exact h
  case h_47 =>
    simp only [mc_do]
    split at h
    · split at h <;> cases h
    · rename_i n98
      rw [if_neg n98]
      exact h
  case h_48 => exact h
  case h_49 => exact h
  case h_50 => exact h
  all_goals ((repeat' split at h) <;> cases h)
theorem mc_ev_ext (al : Bool) : ∀ (n y pc : Nat) (lo lo' : List (Nat × mc_V)) (st : List mc_V) (M : mc_M) (r : Option mc_V × mc_M), mc_ext lo lo' → mc_ev al n y pc lo st M = some r → mc_ev al n y pc lo' st M = some r := by
  intro n
  induction n with
  | zero => intro y pc lo lo' st M r _ h; simp [mc_ev] at h
  | succ n ih =>
    intro y pc lo lo' st M r he h
    simp only [mc_ev] at h ⊢
    cases hs : mc_stp al (mc_code y) pc lo st M with
    | none => rw [hs] at h; simp at h
    | some q =>
      rw [hs] at h
      have hs' := hs
      unfold mc_stp at hs' ⊢
      split at hs'
      · cases hs'
      · rename_i i len rr hf
        rcases q with q | q | q
        · obtain ⟨lo2, h1, h2⟩ := mc_do_ext he hs'
          rw [h1]
          exact ih _ _ _ _ _ _ _ h2 h
        · rw [mc_do_exr lo' hs']
          exact h
        · rw [mc_do_exr lo' hs']
          simp only at h ⊢
          cases hc : mc_ev al n q.1 0 (mc_lo 0 q.2.1) [] M with
          | none => rw [hc] at h; simp at h
          | some z =>
            rw [hc] at h
            exact ih _ _ _ _ _ _ _ he h
theorem Wp.lo {cd : List mc_I} {pc : Nat} {lo lo' : List (Nat × mc_V)} {st : List mc_V} {σ : mc_G} {Φ : Option mc_V → mc_G → Prop} (h : mc_sub lo lo') (k : Wp cd pc lo st σ Φ) : Wp cd pc lo' st σ Φ := by
  intro y hy
  obtain ⟨rv, s1, ⟨n, h1⟩, h2⟩ := k y hy
  exact ⟨rv, s1, ⟨n, mc_ev_ext false n y pc lo lo' st _ _ (mc_sub_ext h) h1⟩, h2⟩

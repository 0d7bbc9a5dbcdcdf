/-- may a cell be read -/
def mc_rd (n a : Nat) : Bool := decide (a < n) || decide (a = 1000) || decide (a = 1001)
def mc_inb (i : Int32) (n : Nat) : Bool := decide (¬ i < 0) && decide (i.toNatClampNeg < n)
def mc_go (pc : Nat) (lo : List (Nat × mc_V)) (st : List mc_V) (M : mc_M) : Option mc_N := some (.inl (pc, lo, st, M))
/-- one instruction -/
def mc_do (al : Bool) (i : Instr) (len : Nat) (r : List Nat) (pc : Nat) (lo : List (Nat × mc_V)) (st : List mc_V) (M : mc_M) : Option mc_N :=
  match i, st with
  | .iconst n, st => mc_go (pc + len) lo (.inl (Int32.ofInt n) :: st) M
  | .bipush n, st => mc_go (pc + len) lo (.inl (Int8.ofInt n).toInt32 :: st) M
  | .sipush n, st => mc_go (pc + len) lo (.inl (Int16.ofInt n).toInt32 :: st) M
  | .ldc _, st => mc_go (pc + len) lo (.inl (Int32.ofNat (r.getD 0 0)) :: st) M
  | .ldc_w _, st => mc_go (pc + len) lo (.inl (Int32.ofNat (r.getD 0 0)) :: st) M
  | .iload_n k, st => match mc_get lo k with
    | some (.inl x) => mc_go (pc + len) lo (.inl x :: st) M
    | _ => none
  | .iload k, st => match mc_get lo k with
    | some (.inl x) => mc_go (pc + len) lo (.inl x :: st) M
    | _ => none
  | .aload_n k, st => match mc_get lo k with
    | some (.inr (some x)) => mc_go (pc + len) lo (.inr (some x) :: st) M
    | _ => none
  | .aload k, st => match mc_get lo k with
    | some (.inr (some x)) => mc_go (pc + len) lo (.inr (some x) :: st) M
    | _ => none
  | .istore_n k, .inl x :: st => mc_go (pc + len) (mc_set lo k (.inl x)) st M
  | .istore k, .inl x :: st => mc_go (pc + len) (mc_set lo k (.inl x)) st M
  | .astore_n k, .inr (some x) :: st => mc_go (pc + len) (mc_set lo k (.inr (some x))) st M
  | .astore k, .inr (some x) :: st => mc_go (pc + len) (mc_set lo k (.inr (some x))) st M
  | .iinc k n, st => match mc_get lo k with
    | some (.inl x) => mc_go (pc + len) (mc_set lo k (.inl (x + Int32.ofInt n))) st M
    | _ => none
  | .iadd, .inl y :: .inl x :: st => mc_go (pc + len) lo (.inl (x + y) :: st) M
  | .isub, .inl y :: .inl x :: st => mc_go (pc + len) lo (.inl (x - y) :: st) M
  | .imul, .inl y :: .inl x :: st => mc_go (pc + len) lo (.inl (x * y) :: st) M
  | .iand, .inl y :: .inl x :: st => mc_go (pc + len) lo (.inl (x &&& y) :: st) M
  | .ior, .inl y :: .inl x :: st => mc_go (pc + len) lo (.inl (x ||| y) :: st) M
  | .ishl, .inl y :: .inl x :: st => mc_go (pc + len) lo (.inl (x <<< (y &&& 31)) :: st) M
  | .ishr, .inl y :: .inl x :: st => mc_go (pc + len) lo (.inl (x >>> (y &&& 31)) :: st) M
  | .iushr, .inl y :: .inl x :: st => mc_go (pc + len) lo (.inl (x.toUInt32 >>> (y.toUInt32 &&& Int32.toUInt32 31)).toInt32 :: st) M
  | .ineg, .inl x :: st => mc_go (pc + len) lo (.inl (0 - x) :: st) M
  | .goto _, st => mc_go (r.getD 0 0) lo st M
  | .ifCond c _, .inl x :: st => mc_go (mc_jmp c x 0 (r.getD 0 0) (pc + len)) lo st M
  | .if_icmp c _, .inl y :: .inl x :: st => mc_go (mc_jmp c x y (r.getD 0 0) (pc + len)) lo st M
  | .tableswitch _ l h _, .inl x :: st => mc_go (if x.toInt < l ∨ h < x.toInt then r.getD 0 0 else r.getD ((x.toInt - l).toNat + 1) 0) lo st M
  | .dup, v :: st => mc_go (pc + len) lo (v :: v :: st) M
  | .dup2, v :: w :: st => mc_go (pc + len) lo (v :: w :: v :: w :: st) M
  | .arraylength, .inr (some a) :: st => if mc_rd M.1 a = true ∧ (mc_ty a).1 < 3 then mc_go (pc + len) lo (.inl (mc_ty a).2.toInt32 :: st) M else none
  | .iaload, .inl i :: .inr (some a) :: st => if mc_rd M.1 a = true ∧ (mc_ty a).1 = 0 ∧ mc_inb i (mc_ty a).2 = true then mc_go (pc + len) lo (.inl (M.2.2 a i.toNatClampNeg) :: st) M else none
  | .baload, .inl i :: .inr (some a) :: st => if mc_rd M.1 a = true ∧ (mc_ty a).1 = 1 ∧ mc_inb i (mc_ty a).2 = true then mc_go (pc + len) lo (.inl (M.2.2 a i.toNatClampNeg) :: st) M else none
  | .aaload, .inl i :: .inr (some a) :: st => if mc_rd M.1 a = true ∧ (mc_ty a).1 = 2 ∧ mc_inb i (mc_ty a).2 = true then mc_go (pc + len) lo (.inr (M.2.1 a i.toNatClampNeg) :: st) M else none
  | .iastore, .inl x :: .inl i :: .inr (some a) :: st => if a < M.1 ∧ (mc_ty a).1 = 0 ∧ mc_inb i (mc_ty a).2 = true then mc_go (pc + len) lo st (M.1, M.2.1, mc_up M.2.2 a i.toNatClampNeg x) else none
  | .bastore, .inl x :: .inl i :: .inr (some a) :: st => if a < M.1 ∧ (mc_ty a).1 = 1 ∧ mc_inb i (mc_ty a).2 = true ∧ (x = 0 ∨ x = 1) then mc_go (pc + len) lo st (M.1, M.2.1, mc_up M.2.2 a i.toNatClampNeg x) else none
  | .aastore, .inr (some v) :: .inl i :: .inr (some a) :: st => if a < M.1 ∧ (mc_ty a).1 = 2 ∧ mc_inb i (mc_ty a).2 = true ∧ v < M.1 ∧ (mc_ty v).1 = 5 then mc_go (pc + len) lo st (M.1, mc_up M.2.1 a i.toNatClampNeg (some v), M.2.2) else none
  | .getfield _, .inr (some a) :: st => if a < M.1 ∧ (mc_ty a).1 = 3 + r.getD 0 0 ∧ r.getD 1 0 < (mc_ty a).2 then mc_go (pc + len) lo ((if r.getD 2 0 = 2 then .inr (M.2.1 a (r.getD 1 0)) else .inl (M.2.2 a (r.getD 1 0))) :: st) M else none
  | .putfield _, .inl x :: .inr (some a) :: st => if a < M.1 ∧ (mc_ty a).1 = 3 + r.getD 0 0 ∧ r.getD 1 0 < (mc_ty a).2 ∧ (r.getD 2 0 = 0 ∨ r.getD 2 0 = 1 ∧ (x = 0 ∨ x = 1)) then mc_go (pc + len) lo st (M.1, M.2.1, mc_up M.2.2 a (r.getD 1 0) x) else none
  | .putfield _, .inr (some v) :: .inr (some a) :: st => if a < M.1 ∧ (mc_ty a).1 = 3 + r.getD 0 0 ∧ r.getD 1 0 < (mc_ty a).2 ∧ r.getD 2 0 = 2 then mc_go (pc + len) lo st (M.1, mc_up M.2.1 a (r.getD 1 0) (some v), M.2.2) else none
  | .getstatic _, st => mc_go (pc + len) lo (.inr (some (r.getD 0 0)) :: st) M
  | .new _, st => if al = true ∧ (mc_ty M.1).1 = 3 + r.getD 0 0 ∧ M.1 < 999 then mc_go (pc + len) lo (.inr (some M.1) :: st) (M.1 + 1, mc_cl M.2.1 M.1 none, mc_cl M.2.2 M.1 0) else none
  | .newarray .int, .inl n :: st => if al = true ∧ mc_ty M.1 = (0, n.toNatClampNeg) ∧ ¬ n < 0 ∧ n.toNatClampNeg ≤ 10000 ∧ M.1 < 999 then mc_go (pc + len) lo (.inr (some M.1) :: st) (M.1 + 1, mc_cl M.2.1 M.1 none, mc_cl M.2.2 M.1 0) else none
  | .newarray .boolean, .inl n :: st => if al = true ∧ mc_ty M.1 = (1, n.toNatClampNeg) ∧ ¬ n < 0 ∧ n.toNatClampNeg ≤ 10000 ∧ M.1 < 999 then mc_go (pc + len) lo (.inr (some M.1) :: st) (M.1 + 1, mc_cl M.2.1 M.1 none, mc_cl M.2.2 M.1 0) else none
  | .anewarray _, .inl n :: st => if al = true ∧ mc_ty M.1 = (2, n.toNatClampNeg) ∧ ¬ n < 0 ∧ n.toNatClampNeg ≤ 10000 ∧ M.1 < 999 then mc_go (pc + len) lo (.inr (some M.1) :: st) (M.1 + 1, mc_cl M.2.1 M.1 none, mc_cl M.2.2 M.1 0) else none
  | .invokevirtual _, st => match (st.take (r.getD 1 0)).reverse with
    | .inr (some a) :: as => if a < M.1 ∧ (mc_ty a).1 = 3 + r.getD 6 0 ∧ r.getD 1 0 ≤ st.length ∧ (st.drop (r.getD 1 0)).length ≤ 8 then some (.inr (.inr (r.getD 0 0, .inr (some a) :: as, st.drop (r.getD 1 0)))) else none
    | _ => none
  | .invokestatic _, st => if r.getD 0 0 = 9990 then match st with
      | .inl y :: .inl x :: st => if st.length ≤ 8 then mc_go (pc + len) lo (.inl (if x < y then y else x) :: st) M else none
      | _ => none
    else if r.getD 0 0 = 9991 then match st with
      | .inl y :: .inl x :: st => if st.length ≤ 8 then mc_go (pc + len) lo (.inl (if y < x then y else x) :: st) M else none
      | _ => none
    else if r.getD 0 0 = 9992 then match st with
      | .inl x :: st => if st.length ≤ 8 then mc_go (pc + len) lo (.inl (if 0 ≤ x then x else 0 - x) :: st) M else none
      | _ => none
    else if r.getD 0 0 = 9999 then match st with
      | [.inl n, .inl dp, .inr (some d), .inl sp, .inr (some q)] => if al = false ∧ d < M.1 ∧ q < M.1 ∧ (mc_ty d).1 = 0 ∧ (mc_ty q).1 = 0 ∧ ¬ sp < 0 ∧ ¬ dp < 0 ∧ ¬ n < 0 ∧ sp.toNatClampNeg + n.toNatClampNeg ≤ (mc_ty q).2 ∧ dp.toNatClampNeg + n.toNatClampNeg ≤ (mc_ty d).2 then mc_go (pc + len) lo [] (M.1, M.2.1, mc_row M.2.2 d (va_cpy (M.2.2 q) (M.2.2 d) sp.toNatClampNeg dp.toNatClampNeg n.toNatClampNeg)) else none
      | _ => none
    else if r.getD 1 0 ≤ st.length ∧ (st.drop (r.getD 1 0)).length ≤ 8 then some (.inr (.inr (r.getD 0 0, (st.take (r.getD 1 0)).reverse, st.drop (r.getD 1 0)))) else none
  | .invokespecial _, st => if r.getD 0 0 = 9998 then match st with
      | [.inr (some _)] => mc_go (pc + len) lo [] M
      | _ => none
    else match (st.take (r.getD 1 0)).reverse with
      | .inr (some a) :: as => if r.getD 1 0 ≤ st.length ∧ (st.drop (r.getD 1 0)).length ≤ 8 then some (.inr (.inr (r.getD 0 0, .inr (some a) :: as, st.drop (r.getD 1 0)))) else none
      | _ => none
  | .ireturn, [.inl x] => if r.getD 0 0 = 0 ∨ x = 0 ∨ x = 1 then some (.inr (.inl (some (.inl x)))) else none
  | .areturn, [.inr (some a)] => some (.inr (.inl (some (.inr (some a)))))
  | .return_, [] => some (.inr (.inl none))
  | _, _ => none
def mc_stp (al : Bool) (cd : List mc_I) (pc : Nat) (lo : List (Nat × mc_V)) (st : List mc_V) (M : mc_M) : Option mc_N := match mc_find cd pc with
  | none => none
  | some (i, len, r) => mc_do al i len r pc lo st M
def mc_code (y : Nat) : List mc_I := match mc_tab[y]? with
  | some t => t.2.2.2.2.2
  | none => []
/-- the machine, n steps at most -/
def mc_ev (al : Bool) : Nat → Nat → Nat → List (Nat × mc_V) → List mc_V → mc_M → Option (Option mc_V × mc_M)
  | 0, _, _, _, _, _ => none
  | n + 1, y, pc, lo, st, M => match mc_stp al (mc_code y) pc lo st M with
    | none => none
    | some (.inl q) => mc_ev al n y q.1 q.2.1 q.2.2.1 q.2.2.2
    | some (.inr (.inl rv)) => some (rv, M)
    | some (.inr (.inr q)) => match mc_ev al n q.1 0 (mc_lo 0 q.2.1) [] M with
      | none => none
      | some z => mc_ev al n y (pc + 3) lo (z.1.toList ++ q.2.2) z.2
theorem mc_ev_mono (al : Bool) : ∀ (n k : Nat) (y pc : Nat) (lo : List (Nat × mc_V)) (st : List mc_V) (M : mc_M) (r : Option mc_V × mc_M), mc_ev al n y pc lo st M = some r → mc_ev al (n + k) y pc lo st M = some r := by
  intro n
  induction n with
  | zero => intro k y pc lo st M r h; simp [mc_ev] at h
  | succ n ih =>
    intro k y pc lo st M r h
    rw [show n + 1 + k = (n + k) + 1 by omega]
    simp only [mc_ev] at h ⊢
    cases hs : mc_stp al (mc_code y) pc lo st M with
    | none => rw [hs] at h; simp at h
    | some q =>
      rw [hs] at h
      rcases q with q | q | q
      · exact ih k _ _ _ _ _ _ h
      · exact h
      · simp only at h ⊢
        cases hc : mc_ev al n q.1 0 (mc_lo 0 q.2.1) [] M with
        | none => rw [hc] at h; simp at h
        | some z =>
          rw [hc] at h
          rw [ih k _ _ _ _ _ _ hc]
          exact ih k _ _ _ _ _ _ h
/-- from a place of a method the machine comes to the method's end, with an answer and a memory -/
def mc_E (al : Bool) (y pc : Nat) (lo : List (Nat × mc_V)) (st : List mc_V) (M : mc_M) (r : Option mc_V × mc_M) : Prop := ∃ n, mc_ev al n y pc lo st M = some r
theorem mc_E.go {al : Bool} {y pc pc' : Nat} {lo lo' : List (Nat × mc_V)} {st st' : List mc_V} {M M' : mc_M} {r : Option mc_V × mc_M} (h : mc_stp al (mc_code y) pc lo st M = some (.inl (pc', lo', st', M'))) (k : mc_E al y pc' lo' st' M' r) : mc_E al y pc lo st M r := by
  obtain ⟨n, hn⟩ := k
  exact ⟨n + 1, by simp only [mc_ev, h]; exact hn⟩
theorem mc_E.ret {al : Bool} {y pc : Nat} {lo : List (Nat × mc_V)} {st : List mc_V} {M : mc_M} {rv : Option mc_V} (h : mc_stp al (mc_code y) pc lo st M = some (.inr (.inl rv))) : mc_E al y pc lo st M (rv, M) := ⟨1, by simp only [mc_ev, h]⟩
theorem mc_E.call {al : Bool} {y pc y' : Nat} {lo : List (Nat × mc_V)} {st as rest : List mc_V} {M M' : mc_M} {rv : Option mc_V} {r : Option mc_V × mc_M} (h : mc_stp al (mc_code y) pc lo st M = some (.inr (.inr (y', as, rest)))) (c : mc_E al y' 0 (mc_lo 0 as) [] M (rv, M')) (k : mc_E al y (pc + 3) lo (rv.toList ++ rest) M' r) : mc_E al y pc lo st M r := by
  obtain ⟨n, hn⟩ := c
  obtain ⟨j, hj⟩ := k
  refine ⟨(n + j) + 1, ?_⟩
  simp only [mc_ev, h]
  rw [mc_ev_mono al n j _ _ _ _ _ _ hn]
  simp only
  rw [show n + j = j + n by omega]
  exact mc_ev_mono al j n _ _ _ _ _ _ hj

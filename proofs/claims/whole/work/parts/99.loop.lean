/-! the law's case 9, and its loop -/
section LWM
variable {l : Launch} {p : Program} {e : Env} {s : State} {m : MethodId} {below : List Frame} {meth : Method} {c : Code} {Q : State → Prop} {b L : Nat} {xs : Nat → Int32} {E : mc_H} {sa : Nat} {cA : ClassId}
theorem lw_okA {K : kS} {x : Int32} {u : Option Nat} (hu : oV x u) (hb : K.2.2.2.2.2.1.1.1 < 2 ^ 31) : ((K.2.2.2.2.2.2.1 = true ∧ (∃ p, u = some p ∧ p < K.2.2.2.2.2.1.1.1)) ↔ ∃ r, ox_ok K x r) ∧ ∀ r p, ox_ok K x r → u = some p → r = nI (K.2.2.2.2.2.1.1.2 p) := by
  cases u with
  | none =>
    refine ⟨⟨fun h => (by obtain ⟨-, p, h, -⟩ := h; cases h), fun h => ?_⟩, fun r p _ h => (by cases h)⟩
    obtain ⟨r, h1, p, h2, h3, -⟩ := h
    exact absurd h2 (neg_nI hu (by omega))
  | some k =>
    have hu' : x = nI k ∧ k < 2 ^ 31 := hu
    refine ⟨⟨fun h => ?_, fun h => ?_⟩, fun r p h hp => ?_⟩
    · obtain ⟨h1, p, hp, h2⟩ := h
      cases hp
      exact ⟨_, h1, k, hu'.1, h2, rfl⟩
    · obtain ⟨r, h1, p, h2, h3, -⟩ := h
      have := nI_ij hu'.2 (by omega) (hu'.1.symm.trans h2)
      exact ⟨h1, k, rfl, by omega⟩
    · cases hp
      obtain ⟨h1, p, h2, h3, h4⟩ := h
      have := nI_ij hu'.2 (by omega) (hu'.1.symm.trans h2)
      rw [h4, this]
set_option maxHeartbeats 4000000 in
set_option maxRecDepth 100000 in
theorem lw_c9 (hl : l.stackTraces = false) (X : lw_X p s m meth c b L xs E sa cA) {k cells slots : Nat} (hk : 5 * k + 5 ≤ L) {K : kS} {σ : mc_G} (hp : pIn K σ) {H : Heap} {locs : List Loc} {ls : Array Slot} (hI : lw_I E cA s b (5 * k) k σ H locs cells slots ls)
    (back : ∀ (K : kS) (σ : mc_G) (H : Heap) (locs : List Loc) (cells slots : Nat) (ls : Array Slot), pIn K σ → lw_I E cA s b (5 * k) (k + 1) σ H locs cells slots ls → W p l e room_1 s m #[Value.ref b] below meth c H locs cells slots Q (F0 m 618 ls [])) : W p l e room_1 s m #[Value.ref b] below meth c H locs cells slots Q (F0 m 401 ls []) := by
  have X0 := X
  obtain ⟨⟨hx, hb, hr, hml, hown, hts, hX, hbl, hlocks, hgv⟩, hU, hAr, hb0, hL⟩ := X
  obtain ⟨hS, hv, hce, hsl, hlv⟩ := hI
  have htm : ∀ w ∈ mc_ws, w.before #[Value.ref b] s = true := fun w hw => hts w (List.mem_filter.mp hw).1
  have S : CallFix p m c code 7 s #[Value.ref b] lw_tbl R_law := ⟨hx, hb, hml, hown, hts⟩
  have hus := lw_us
  have hcR : cells + 1 ≤ room_1.cells := (show cells + 1 ≤ 603072 by omega)
  have hsR : slots + 6 ≤ room_1.slots := (show slots + 6 ≤ 7211114 by omega)
  have hW1 : K.2.2.2.2.2.1.1.1 < 2 ^ 31 := by
    have := hp.1.2.2.2.2.2.2.1.1.2.1
    omega
  refine lv_aload_n hx hb dL_law_401 rfl (lv_at hlv 3 rfl) ?_
  refine lw_ld X0 (j := 1) hk hS.2.1 (lv_at hlv 4 rfl) (lv_at hlv 0 rfl) (by decide) dL_law_402 rfl dL_law_403 rfl dL_law_405 rfl dL_law_406 rfl dL_law_407 rfl ?_
  generalize hxe : xs (5 * k + 1) = x
  obtain ⟨u, hu⟩ : ∃ u, oV x u := by
    rcases ix x with h | ⟨k9, h2, h3⟩
    · exact ⟨none, h⟩
    · exact ⟨some k9, h2, h3⟩
  obtain ⟨hA1, hA2⟩ := lw_okA (K := K) hu hW1
  refine lv_aload_n hx hb dL_law_408 rfl (lv_at hlv 1 rfl) ?_
  have hrun := vx_runSX (R := room_1) (H := H) (As := [.ref (mc_adr E 0), .int x, .ref (E.2.2.1 + 187)]) (n := 3) (index := 59) (g := F0 m 409 ls [.ref (E.2.2.1 + 187), .int x, .ref (mc_adr E 0)]) (rest := []) (cells := cells) (slots := slots) (locs := locs) (below := below) (e := e) (meth := meth) (hh := [(0, 9, 12, 13)]) (bytes := cL_out) (maxL := 4) (ret := some .int) S (lo_met l hl E sa hp.1 x cA)
    ⟨⟨rfl, rfl, by decide, by decide, (fun w hw => by
        rcases List.mem_cons.mp hw with rfl | h
        · exact fun a' U hW => word_at hW (Or.inl rfl) (hts _ (by decide +kernel))
        · exact mc_pay htm w h), List.mem_cons_self⟩, hts _ (by decide +kernel), hts _ (by decide +kernel), ⟨by decide, by decide⟩, lo_sig (by decide +kernel), hts _ (by decide +kernel), hts _ (by decide +kernel)⟩
    ⟨lo_blind E sa σ x cA, fun U hH hW => ⟨rfl, hU.to hW (by rw [hH]; exact hS.2.1.1) (fun q h1 h2 => by rw [hH]; exact hS.2.1.2.1 q h1 h2), by rw [hH]; exact hS.1, arrOfT_moved hW.alike hAr, by rw [hH]; exact hv⟩⟩ rfl rfl hlv.1 rfl (lv_room (Nat.le_of_ble_eq_true rfl)) dL_law_409 ⟨hcR, hsR⟩
  intro T hT XX
  rcases hrun T hT XX with ⟨v, st₀, t, T', L1, h00, X', hL1, e1, e2, ⟨k0, hR0, hv0, hF1, hF2⟩, st⟩ | ⟨q, st₀, t, T', L1, Ex, ce, h00, X', hL1, e1, e2, hF, -⟩
  · have hv' : v = some (Value.int k0) := Outcome.returned.inj hv0
    subst hv'
    have K1 : W p l e room_1 s m #[Value.ref b] below meth c T'.heap (locs ++ L1) (cells + 1) (slots + 6) Q (F0 m 412 ls [.int k0]) := by
      have hR1 : lo_R E K x cA k0 T'.heap := by rw [e1]; exact hR0
      have hS1 : lw_S E s σ T'.heap (locs ++ L1) := by
        have hz : H.size ≤ T'.heap.size := by rw [e1, ← h00]; exact hF2.1
        refine ⟨by rw [e1]; exact hF1, ⟨Nat.le_trans hS.2.1.1 hz, ?_, ?_⟩, Nat.lt_of_lt_of_le hS.2.2 hz⟩
        · intro q h1 h2
          rw [e1, hF2.2 q (by rw [h00]; exact Nat.lt_of_lt_of_le h1 hS.2.1.1) h2, h00]
          exact hS.2.1.2.1 q h1 h2
        · intro q hq
          rcases List.mem_append.mp hq with h | h
          · exact hS.2.1.2.2 q h
          · exact hL1 q h
      have hcR' : cells + 1 ≤ room_1.cells := hcR
      have hsR' : slots + 6 ≤ room_1.slots := hsR
      generalize T'.heap = H1 at hR1 hS1 ⊢
      refine lv_istore hx hb dL_law_412 hlv (by decide) rfl (fun ls1 hlv1 => ?_)
      refine lv_aload_n hx hb dL_law_414 rfl (lv_at hlv1 3 rfl) ?_
      refine lw_ld X0 (j := 1) hk hS1.2.1 (lv_at hlv1 5 rfl) (lv_at hlv1 1 rfl) (by decide) dL_law_415 rfl dL_law_416 rfl dL_law_418 rfl dL_law_419 rfl dL_law_420 rfl ?_
      rw [hxe]
      have hout : Wp miX12_out 0 [(0, .inr (some 167)), (1, .inl x)] [] σ (fun rv σ2 => ∃ r2 : Int32, rv = some (.inl r2) ∧ ((∃ r, ox_ok K x r) → ox_ok K x r2 ∧ σ2 167 0 = 0) ∧ ((∀ r, ¬ ox_ok K x r) → σ2 167 0 = 1) ∧ cMod K σ2 ∧ ofR 167 186 σ σ2) := by
        refine (sX12_out hp.2.1 hp.2.2.2 hu).mono (fun rv σ2 q => ?_)
        obtain ⟨q1, q2, q3⟩ := q
        by_cases hA : K.2.2.2.2.2.2.1 = true ∧ (∃ p, u = some p ∧ p < K.2.2.2.2.2.1.1.1)
        · rw [if_pos hA] at q1
          obtain ⟨⟨p9, hp9, hrv⟩, h0⟩ := q1
          obtain ⟨r, hr9⟩ := hA1.mp hA
          exact ⟨_, hrv, fun _ => ⟨(by rw [← hA2 r p9 hr9 hp9]; exact hr9), h0⟩, fun h => absurd hr9 (h r), q2, q3⟩
        · rw [if_neg hA] at q1
          obtain ⟨h1, y9, hrv⟩ := q1
          exact ⟨y9, hrv, fun h => absurd (hA1.mpr h) hA, fun _ => h1, q2, q3⟩
      refine gc_callV (E := E) (a := 167) (ci := 14) (as := [.inl x]) (n := 1) (rest := []) (Φ := fun r2 σ2 => ((∃ r, ox_ok K x r) → ox_ok K x r2 ∧ σ2 167 0 = 0) ∧ ((∀ r, ¬ ox_ok K x r) → σ2 167 0 = 1) ∧ cMod K σ2 ∧ ofR 167 186 σ σ2) S htm hU.1 (y := 181) (u := mkX12_out) rfl (hts _ (by decide +kernel)) (hts _ (by decide +kernel)) (hts _ (by decide +kernel)) (by decide) (by decide) rfl rfl (by decide) rfl rfl (by decide +kernel) (by decide) dL_law_421 hlv1.1 (by decide) hcR' hsR' hout hS1 (fun r2 σ2 H2 locs2 hΦ hS2 hl2 => ?_)
      refine lv_istore hx hb dL_law_424 hlv1 (by decide) rfl (fun ls2 hlv2 => ?_)
      refine lv_aload_n hx hb dL_law_426 rfl (lv_at hlv2 4 rfl) ?_
      refine gc_callV (E := E) (a := 167) (ci := 14) (as := []) (n := 0) (rest := []) (Φ := fun r3 σ3 => r3 = σ2 167 0 ∧ σ3 = σ2) S htm hU.1 (y := 126) (u := mkX12_thrown) rfl (hts _ (by decide +kernel)) (hts _ (by decide +kernel)) (hts _ (by decide +kernel)) (by decide) (by decide) rfl rfl (by decide) rfl rfl (by decide +kernel) (by decide) dL_law_427 hlv2.1 (by decide) hcR' hsR' (sX12_thrown.mono (fun rv σ3 q => ⟨_, q.1, rfl, q.2⟩)) hS2 (fun r3 σ3 H3 locs3 h3 hS3 hl3 => ?_)
      obtain ⟨hr3, hσ3⟩ := h3
      subst hσ3
      obtain ⟨hB1, hB2, hM2, ho2⟩ := hΦ
      have hp2 : pIn K σ3 := ⟨hp.1.rm ho2, hM2, hp.2.2⟩
      have heq : r3 = k0 := by
        rw [hr3]
        rcases hR1 with ⟨h1, r, h2, -⟩ | ⟨h1, h2, -⟩
        · rw [h1]; exact (hB1 ⟨r, h2⟩).2
        · rw [h1]; exact hB2 h2
      have hvv : ∃ v, lo_C E cA v H3 := by
        have h9 : ∃ v, lo_C E cA v H1 := by
          rcases hR1 with ⟨-, r, -, h2⟩ | ⟨-, -, h2⟩
          · exact ⟨_, h2⟩
          · exact h2
        exact lo_C.k2 h9 hl2 hl3
      have fin : W p l e room_1 s m #[Value.ref b] below meth c H3 locs3 (cells + 1) (slots + 6) Q (F0 m 454 ls2 []) := by
        refine lv_goto hx hb dL_law_454 (tgt := 618) rfl ?_
        exact back K σ3 H3 locs3 (cells + 1) (slots + 6) ls2 hp2 ⟨hS3, hvv, by omega, by omega, ⟨hlv2.1, hlv2.2.1, fun q hq => hlv2.2.2 q (List.mem_cons_of_mem _ (List.mem_cons_of_mem _ hq))⟩⟩
      refine lv_iload hx hb dL_law_430 (lv_at hlv2 1 rfl) ?_
      refine lv_icmp_eq hx hb dL_law_432 (tgt := 437) rfl (fun _ => ?_) (fun h => absurd heq h)
      refine lv_iload hx hb dL_law_437 (lv_at hlv2 1 rfl) ?_
      refine lv_if_ne hx hb dL_law_439 (tgt := 454) rfl (fun _ => fin) (fun h0 => ?_)
      rcases hR1 with ⟨-, r, hok, f, hf1, hf2⟩ | ⟨h1, -, -⟩
      · have hrr : r = r2 := by
          have h8 := (hB1 ⟨r, hok⟩).1
          obtain ⟨-, p9, hp9, -⟩ := hA1.mpr ⟨r, hok⟩
          rw [hA2 r p9 hok hp9, hA2 r2 p9 h8 hp9]
        refine lv_aload_n hx hb dL_law_442 rfl (lv_at hlv2 3 rfl) ?_
        refine lv_iconst hx hb dL_law_443 (v := 0) rfl ?_
        refine W.lald hx hb (cell := arrV cA 1 f) (j := 0) (v := .long r.toInt64) (by rw [hl3, hl2]; exact hf1) (hAr 1 f) (fun q => by cases q) (by show ¬ (_ ∨ (arrV _ _ _).slots.size ≤ _); rw [arrV_size]; decide) (by show (arrV _ _ _).slots[_]? = _; rw [arrV_read _ _ (show (0 : Int32).toNatClampNeg < 1 by decide)]; exact congrArg some hf2) rfl rfl dL_law_444 ?_
        refine lv_iload hx hb dL_law_445 (lv_at hlv2 0 rfl) ?_
        refine lv_i2l hx hb dL_law_447 rfl ?_
        refine W.lcmp hx hb dL_law_448 ?_
        refine lv_if_eq hx hb dL_law_449 (tgt := 454) rfl (fun _ => fin) (fun h => absurd ?_ h)
        rw [hrr]
        unfold lg_cmp
        rw [if_neg (by simp), if_pos rfl]
      · rw [h1] at h0; exact absurd h0 (by decide)
    obtain ⟨t2, a1, b1⟩ := K1 T' rfl X'
    exact ⟨t2, st t2 a1, b1⟩
  · exact hF.elim
theorem lw_and (y : Int32) : ∃ j : Nat, j ≤ 15 ∧ (y &&& 15) = nI j := by
  refine ⟨(y.toBitVec &&& 15#32).toNat, ?_, ?_⟩
  · rw [BitVec.toNat_and]
    exact Nat.and_le_right
  · apply Int32.toBitVec_inj.mp
    show (y &&& 15).toBitVec = BitVec.ofNat 32 _
    rw [Int32.toBitVec_and, BitVec.ofNat_toNat, BitVec.setWidth_eq]
    rfl
theorem lw_l5 : ∀ n, n < 5 → nI n - 5 < nI 0 := by decide +kernel
theorem lw_gt {L k : Nat} (hL : L ≤ 2560) (h : L < 5 * k + 5) (hk : 5 * k ≤ L) : nI L - 5 < nI (5 * k) := by
  by_cases h5 : L < 5
  · have : k = 0 := by omega
    subst this
    exact lw_l5 L h5
  · have e : nI L - 5 = nI (L - 5) := pk_sub (b := 5) (by omega)
    rw [e]
    exact nI_lt (by omega) (by omega)
theorem lw_ngt {L k : Nat} (hL : L ≤ 2560) (h : 5 * k + 5 ≤ L) : ¬ nI L - 5 < nI (5 * k) := by
  have e : nI L - 5 = nI (L - 5) := pk_sub (b := 5) (by omega)
  rw [e]
  exact nI_nlt (by omega) (by omega)
set_option maxHeartbeats 4000000 in
set_option maxRecDepth 100000 in
theorem lw_loop (hl : l.stackTraces = false) (X : lw_X p s m meth c b L xs E sa cA) : ∀ (n k : Nat) (K : kS) (σ : mc_G) (H : Heap) (locs : List Loc) (cells slots : Nat) (ls : Array Slot), 5 * (k + n) ≤ L → L < 5 * (k + n) + 5 → pIn K σ → lw_I E cA s b (5 * k) k σ H locs cells slots ls →
    W p l e room_1 s m #[Value.ref b] below meth c H locs cells slots (lw_Z below #[Value.ref b] s) (F0 m 23 ls []) := by
  intro n
  induction n with
  | zero =>
    intro k K σ H locs cells slots ls h1 h2 hp hI
    obtain ⟨⟨hx, hb, hr, hml, hown, hts, hX, hbl, hlocks, hgv⟩, hU, hAr, hb0, hL⟩ := X
    obtain ⟨hS, hv, hce, hsl, hlv⟩ := hI
    have hus := lw_us
    refine lv_iload hx hb dL_law_23 (lv_at hlv 0 rfl) ?_
    refine lv_aload_n hx hb dL_law_25 rfl (lv_at hlv 4 rfl) ?_
    refine va_slen hx hb hX hbl (fun h => by have := h.1; omega) hS.2.1 dL_law_26 ?_
    refine lv_iconst hx hb dL_law_27 (v := 5) rfl ?_
    refine lv_isub hx hb dL_law_28 ?_
    refine lv_icmp_gt hx hb dL_law_29 (tgt := 624) rfl (fun _ => ?_) (fun h => absurd (lw_gt hL (by omega) (by omega)) h)
    refine lv_iconst hx hb dL_law_624 (v := 1) rfl ?_
    refine va_forget (fun q hq => by have := (hS.2.1.2.2 q hq).1; omega) ?_
    refine W.widen (k := 603072) (n := 7211114) (by omega) (by omega) ?_
    exact lw_ret hx hb hr hlocks dL_law_625
  | succ n ih =>
    intro k K σ H locs cells slots ls h1 h2 hp hI
    have hk : 5 * k + 5 ≤ L := by omega
    have back : ∀ (K : kS) (σ : mc_G) (H : Heap) (locs : List Loc) (cells slots : Nat) (ls : Array Slot), pIn K σ → lw_I E cA s b (5 * k) (k + 1) σ H locs cells slots ls → W p l e room_1 s m #[Value.ref b] below meth c H locs cells slots (lw_Z below #[Value.ref b] s) (F0 m 618 ls []) := by
      intro K σ H locs cells slots ls hp hI
      obtain ⟨hS, hv, hce, hsl, hlv⟩ := hI
      refine lv_iinc X.1.1 X.1.2.1 dL_law_618 hlv (k := 0) rfl (v := nI (5 * (k + 1))) ?_ (by decide) rfl (fun ls' hlv' => ?_)
      · show nI (5 * k) + nI 5 = _
        rw [nI_add]; rfl
      · refine lv_goto X.1.1 X.1.2.1 dL_law_621 (tgt := 23) rfl ?_
        exact ih (k + 1) K σ H locs cells slots ls' (by omega) (by omega) hp ⟨hS, hv, hce, hsl, hlv'⟩
    have X0 := X
    have hI0 := hI
    obtain ⟨⟨hx, hb, hr, hml, hown, hts, hX, hbl, hlocks, hgv⟩, hU, hAr, hb0, hL⟩ := X
    obtain ⟨hS, hv, hce, hsl, hlv⟩ := hI
    refine lv_iload hx hb dL_law_23 (lv_at hlv 0 rfl) ?_
    refine lv_aload_n hx hb dL_law_25 rfl (lv_at hlv 4 rfl) ?_
    refine va_slen hx hb hX hbl (fun h => by have := h.1; omega) hS.2.1 dL_law_26 ?_
    refine lv_iconst hx hb dL_law_27 (v := 5) rfl ?_
    refine lv_isub hx hb dL_law_28 ?_
    refine lv_icmp_gt hx hb dL_law_29 (tgt := 624) rfl (fun h => absurd h (lw_ngt hL hk)) (fun _ => ?_)
    refine lv_aload_n hx hb dL_law_32 rfl (lv_at hlv 4 rfl) ?_
    refine lv_iload hx hb dL_law_33 (lv_at hlv 0 rfl) ?_
    refine va_sld hx hb hX hbl (fun h => by have := h.1; omega) hS.2.1 (nI_in (by omega) (by omega)) dL_law_35 ?_
    refine lv_bipush hx hb dL_law_36 (v := 15) (by decide) ?_
    refine lv_iand hx hb dL_law_38 ?_
    obtain ⟨j, hj, hje⟩ := lw_and (xs (nI (5 * k)).toNatClampNeg)
    rw [hje]
    have hjj : j = 0 ∨ j = 1 ∨ j = 2 ∨ j = 3 ∨ j = 4 ∨ j = 5 ∨ j = 6 ∨ j = 7 ∨ j = 8 ∨ j = 9 ∨ j = 10 ∨ j = 11 ∨ j = 12 ∨ j = 13 ∨ j = 14 ∨ j = 15 := by omega
    rcases hjj with rfl | rfl | rfl | rfl | rfl | rfl | rfl | rfl | rfl | rfl | rfl | rfl | rfl | rfl | rfl | rfl
    · refine lv_tableIn hx hb dL_law_39 (off := 73) (tgt := 112) (by decide +kernel) (by decide +kernel) (by decide +kernel) rfl ?_
      exact lw_c0 X0 hk hp hI0 back
    · refine lv_tableIn hx hb dL_law_39 (off := 126) (tgt := 165) (by decide +kernel) (by decide +kernel) (by decide +kernel) rfl ?_
      exact lw_c1 X0 hk hp hI0 back
    · refine lv_tableIn hx hb dL_law_39 (off := 163) (tgt := 202) (by decide +kernel) (by decide +kernel) (by decide +kernel) rfl ?_
      exact lw_c2 X0 hk hp hI0 back
    · refine lv_tableIn hx hb dL_law_39 (off := 200) (tgt := 239) (by decide +kernel) (by decide +kernel) (by decide +kernel) rfl ?_
      exact lw_c3 X0 hk hp hI0 back
    · refine lv_tableIn hx hb dL_law_39 (off := 261) (tgt := 300) (by decide +kernel) (by decide +kernel) (by decide +kernel) rfl ?_
      exact lw_c4 X0 hk hp hI0 back
    · refine lv_tableIn hx hb dL_law_39 (off := 274) (tgt := 313) (by decide +kernel) (by decide +kernel) (by decide +kernel) rfl ?_
      exact lw_c5 X0 hk hp hI0 back
    · refine lv_tableIn hx hb dL_law_39 (off := 287) (tgt := 326) (by decide +kernel) (by decide +kernel) (by decide +kernel) rfl ?_
      exact lw_c6 X0 hk hp hI0 back
    · refine lv_tableIn hx hb dL_law_39 (off := 324) (tgt := 363) (by decide +kernel) (by decide +kernel) (by decide +kernel) rfl ?_
      exact lw_c7 X0 hk hp hI0 back
    · refine lv_tableIn hx hb dL_law_39 (off := 349) (tgt := 388) (by decide +kernel) (by decide +kernel) (by decide +kernel) rfl ?_
      exact lw_c8 X0 hk hp hI0 back
    · refine lv_tableIn hx hb dL_law_39 (off := 362) (tgt := 401) (by decide +kernel) (by decide +kernel) (by decide +kernel) rfl ?_
      exact lw_c9 hl X0 hk hp hI0 back
    · refine lv_tableIn hx hb dL_law_39 (off := 418) (tgt := 457) (by decide +kernel) (by decide +kernel) (by decide +kernel) rfl ?_
      exact lw_c10 X0 hk hp hI0 back
    · refine lv_tableIn hx hb dL_law_39 (off := 467) (tgt := 506) (by decide +kernel) (by decide +kernel) (by decide +kernel) rfl ?_
      exact lw_c11 X0 hk hp hI0 back
    · refine lv_tableIn hx hb dL_law_39 (off := 480) (tgt := 519) (by decide +kernel) (by decide +kernel) (by decide +kernel) rfl ?_
      exact lw_c12 X0 hk hp hI0 back
    · refine lv_tableIn hx hb dL_law_39 (off := 517) (tgt := 556) (by decide +kernel) (by decide +kernel) (by decide +kernel) rfl ?_
      exact lw_c13 X0 hk hp hI0 back
    · refine lv_tableIn hx hb dL_law_39 (off := 554) (tgt := 593) (by decide +kernel) (by decide +kernel) (by decide +kernel) rfl ?_
      exact lw_c14 X0 hk hp hI0 back
    · refine lv_tableOut hx hb dL_law_39 (tgt := 618) (Or.inr (by decide +kernel)) rfl ?_
      exact back K σ H locs cells slots ls hp ⟨hS, hv, by omega, by omega, hlv⟩
end LWM

/-! the law's loop: one theorem a case -/
def lw_X (p : Program) (s : State) (m : MethodId) (meth : Method) (c : Code) (b L : Nat) (xs : Nat → Int32) (E : mc_H) (sa : Nat) (cA : ClassId) : Prop := lw_At p s m meth c b L xs ∧ ox_U E sa s ∧ ArrOfT s cA .long ∧ E.2.2.1 = s.heap.size ∧ L ≤ 2560
abbrev lw_lv (E : mc_H) (b i : Nat) : List (Nat × Value) := [(4, .int (nI i)), (3, .ref (E.2.2.1 + 187)), (2, .ref (mc_adr E 167)), (1, .ref (mc_adr E 0)), (0, .ref b)]
def lw_I (E : mc_H) (cA : ClassId) (s : State) (b i n : Nat) (σ : mc_G) (H : Heap) (locs : List Loc) (cells slots : Nat) (ls : Array Slot) : Prop := lw_S E s σ H locs ∧ (∃ v, lo_C E cA v H) ∧ cells ≤ 188 + n ∧ slots ≤ mc_us 187 + 1 + 6 * n ∧ lv_has ls 7 (lw_lv E b i)
theorem lw_us : mc_us 187 ≤ 7000000 := by decide +kernel
theorem lo_C.k2 {E : mc_H} {cA : ClassId} {H H1 H2 : Heap} (h : ∃ v, lo_C E cA v H) (h1 : H1[E.2.2.1 + 187]? = H[E.2.2.1 + 187]?) (h2 : H2[E.2.2.1 + 187]? = H1[E.2.2.1 + 187]?) : ∃ v, lo_C E cA v H2 := by
  obtain ⟨v, f, a, q⟩ := h
  exact ⟨v, f, by rw [h2, h1]; exact a, q⟩
section LWL
variable {l : Launch} {p : Program} {e : Env} {s : State} {m : MethodId} {below : List Frame} {meth : Method} {c : Code} {Q : State → Prop} {b L : Nat} {xs : Nat → Int32} {E : mc_H} {sa : Nat} {cA : ClassId}
theorem lw_ld (X : lw_X p s m meth c b L xs E sa cA) {k j i1 i3 i4 i5 i6 pc cells slots : Nat} {H : Heap} {locs : List Loc} {ls : Array Slot} {rest : List Value} (hk : 5 * k + 5 ≤ L) (hV : va_S (mc_A E true) s.heap H locs) (h0 : ls[0]? = some (.val (.ref b))) (h4 : ls[4]? = some (.val (.int (nI (5 * k))))) (hj : j ≤ 4)
    (d0 : decode code pc = .ok (.aload_n 0, 1)) (e1 : i1 = pc + 1) (d1 : decode code i1 = .ok (.iload 4, 2)) (e3 : i3 = pc + 3) (d3 : decode code i3 = .ok (.iconst (Int.ofNat j), 1)) (e4 : i4 = pc + 4) (d4 : decode code i4 = .ok (.iadd, 1)) (e5 : i5 = pc + 5) (d5 : decode code i5 = .ok (.iaload, 1)) (e6 : i6 = pc + 6)
    (kk : W p l e room_1 s m #[Value.ref b] below meth c H locs cells slots Q (F0 m i6 ls (.int (xs (5 * k + j)) :: rest))) : W p l e room_1 s m #[Value.ref b] below meth c H locs cells slots Q (F0 m pc ls rest) := by
  obtain ⟨⟨hx, hb, hr, hml, hown, hts, hX, hbl, hlocks, hgv⟩, hU, hAr, hb0, hL⟩ := X
  subst e1 e3 e4 e5 e6
  refine lv_aload_n hx hb d0 rfl h0 ?_
  refine lv_iload hx hb d1 h4 ?_
  refine lv_iconst hx hb d3 (v := nI j) rfl ?_
  refine lv_iadd hx hb d4 ?_
  rw [nI_add]
  refine va_sld hx hb hX hbl (fun h => by have := h.1; omega) hV (nI_in (by omega) (by omega)) d5 ?_
  rw [nI_clamp (by omega)]
  exact kk
theorem lw_bl (X : lw_X p s m meth c b L xs E sa cA) {i3 i4 i7 i8 pc cells slots : Nat} {v : Int32} {H : Heap} {locs : List Loc} {ls : Array Slot} {rest : List Value} (d0 : decode code pc = .ok (.ifCond .eq 7, 3)) (e3 : i3 = pc + 3) (d3 : decode code i3 = .ok (.iconst 1, 1)) (e4 : i4 = pc + 4) (d4 : decode code i4 = .ok (.goto 4, 3)) (e7 : i7 = pc + 7) (d7 : decode code i7 = .ok (.iconst 0, 1)) (e8 : i8 = pc + 8)
    (kk : W p l e room_1 s m #[Value.ref b] below meth c H locs cells slots Q (F0 m i8 ls (.int (bI (decide (¬ v = 0))) :: rest))) : W p l e room_1 s m #[Value.ref b] below meth c H locs cells slots Q (F0 m pc ls (.int v :: rest)) := by
  obtain ⟨⟨hx, hb, hr, hml, hown, hts, hX, hbl, hlocks, hgv⟩, hU, hAr, hb0, hL⟩ := X
  subst e3 e4 e7 e8
  refine lv_if_eq hx hb d0 (tgt := pc + 7) (by omega) (fun h => ?_) (fun h => ?_)
  · refine lv_iconst hx hb d7 (v := 0) rfl ?_
    rw [decide_eq_false (by exact fun q => q h)] at kk
    exact kk
  · refine lv_iconst hx hb d3 (v := 1) rfl ?_
    refine lv_goto hx hb d4 (tgt := pc + 8) (by omega) ?_
    rw [decide_eq_true h] at kk
    exact kk
set_option maxHeartbeats 4000000 in
set_option maxRecDepth 100000 in
theorem lw_c0 (X : lw_X p s m meth c b L xs E sa cA) {k cells slots : Nat} (hk : 5 * k + 5 ≤ L) {K : kS} {σ : mc_G} (hp : pIn K σ) {H : Heap} {locs : List Loc} {ls : Array Slot} (hI : lw_I E cA s b (5 * k) k σ H locs cells slots ls)
    (back : ∀ (K : kS) (σ : mc_G) (H : Heap) (locs : List Loc) (cells slots : Nat) (ls : Array Slot), pIn K σ → lw_I E cA s b (5 * k) (k + 1) σ H locs cells slots ls → W p l e room_1 s m #[Value.ref b] below meth c H locs cells slots Q (F0 m 618 ls [])) : W p l e room_1 s m #[Value.ref b] below meth c H locs cells slots Q (F0 m 112 ls []) := by
  have X0 := X
  obtain ⟨⟨hx, hb, hr, hml, hown, hts, hX, hbl, hlocks, hgv⟩, hU, hAr, hb0, hL⟩ := X
  obtain ⟨hS, hv, hce, hsl, hlv⟩ := hI
  have htm : ∀ w ∈ mc_ws, w.before #[Value.ref b] s = true := fun w hw => hts w (List.mem_filter.mp hw).1
  have S : CallFix p m c code 7 s #[Value.ref b] lw_tbl R_law := ⟨hx, hb, hml, hown, hts⟩
  have hcR : cells ≤ room_1.cells := (show cells ≤ 603072 by omega)
  have hsR : slots ≤ room_1.slots := (show slots ≤ 7211114 by have := lw_us; omega)
  refine lv_aload_n hx hb dL_law_112 rfl (lv_at hlv 3 rfl) ?_
  refine lw_ld X0 (j := 1) hk hS.2.1 (lv_at hlv 4 rfl) (lv_at hlv 0 rfl) (by decide) dL_law_113 rfl dL_law_114 rfl dL_law_116 rfl dL_law_117 rfl dL_law_118 rfl ?_
  refine lw_ld X0 (j := 2) hk hS.2.1 (lv_at hlv 4 rfl) (lv_at hlv 0 rfl) (by decide) dL_law_119 rfl dL_law_120 rfl dL_law_122 rfl dL_law_123 rfl dL_law_124 rfl ?_
  refine lw_bl X0 dL_law_125 rfl dL_law_128 rfl dL_law_129 rfl dL_law_132 rfl ?_
  refine gc_callV (E := E) (a := 0) (ci := 13) (as := [.inl (xs (5 * k + 1)), .inl (bI (decide (¬ xs (5 * k + 2) = 0)))]) (n := 2) (rest := []) (Φ := fun r σ1 => Wp miX12_type 0 [(0, .inr (some 167)), (1, .inl (xs (5 * k + 1))), (2, .inl (bI (decide (¬ xs (5 * k + 2) = 0))))] [] σ1 (fun rv2 σ2 => rv2 = some (.inl r) ∧ ∃ K', pIn K' σ2)) S htm hU.1 (y := 104) (u := mkX11_type) rfl (hts _ (by decide +kernel)) (hts _ (by decide +kernel)) (hts _ (by decide +kernel)) (by decide) (by decide) rfl rfl (by decide) rfl rfl (by decide +kernel) (by decide) dL_law_133 hlv.1 (by decide) hcR hsR (pa_type hp (xs (5 * k + 1)) _) hS (fun r σ1 H1 locs1 hw1 hS1 hl1 => ?_)
  refine lv_aload_n hx hb dL_law_136 rfl (lv_at hlv 2 rfl) ?_
  refine lw_ld X0 (j := 1) hk hS1.2.1 (lv_at hlv 4 rfl) (lv_at hlv 0 rfl) (by decide) dL_law_137 rfl dL_law_138 rfl dL_law_140 rfl dL_law_141 rfl dL_law_142 rfl ?_
  refine lw_ld X0 (j := 2) hk hS1.2.1 (lv_at hlv 4 rfl) (lv_at hlv 0 rfl) (by decide) dL_law_143 rfl dL_law_144 rfl dL_law_146 rfl dL_law_147 rfl dL_law_148 rfl ?_
  refine lw_bl X0 dL_law_149 rfl dL_law_152 rfl dL_law_153 rfl dL_law_156 rfl ?_
  refine gc_callV (E := E) (a := 167) (ci := 14) (as := [.inl (xs (5 * k + 1)), .inl (bI (decide (¬ xs (5 * k + 2) = 0)))]) (n := 2) (rest := [.int r]) (Φ := fun r2 σ2 => r2 = r ∧ ∃ K', pIn K' σ2) S htm hU.1 (y := 138) (u := mkX12_type) rfl (hts _ (by decide +kernel)) (hts _ (by decide +kernel)) (hts _ (by decide +kernel)) (by decide) (by decide) rfl rfl (by decide) rfl rfl (by decide +kernel) (by decide) dL_law_157 hlv.1 (Nat.le_of_ble_eq_true rfl) hcR hsR (hw1.mono (fun rv σ2 q => ⟨r, q.1, rfl, q.2⟩)) hS1 (fun r2 σ2 H2 locs2 h2 hS2 hl2 => ?_)
  obtain ⟨rfl, K', hp'⟩ := h2
  refine lv_icmp_eq hx hb dL_law_160 (tgt := 618) rfl (fun _ => ?_) (fun h => absurd rfl h)
  exact back K' σ2 H2 locs2 cells slots ls hp' ⟨hS2, lo_C.k2 hv hl1 hl2, by omega, by omega, hlv⟩
set_option maxHeartbeats 4000000 in
set_option maxRecDepth 100000 in
theorem lw_c1 (X : lw_X p s m meth c b L xs E sa cA) {k cells slots : Nat} (hk : 5 * k + 5 ≤ L) {K : kS} {σ : mc_G} (hp : pIn K σ) {H : Heap} {locs : List Loc} {ls : Array Slot} (hI : lw_I E cA s b (5 * k) k σ H locs cells slots ls)
    (back : ∀ (K : kS) (σ : mc_G) (H : Heap) (locs : List Loc) (cells slots : Nat) (ls : Array Slot), pIn K σ → lw_I E cA s b (5 * k) (k + 1) σ H locs cells slots ls → W p l e room_1 s m #[Value.ref b] below meth c H locs cells slots Q (F0 m 618 ls [])) : W p l e room_1 s m #[Value.ref b] below meth c H locs cells slots Q (F0 m 165 ls []) := by
  have X0 := X
  obtain ⟨⟨hx, hb, hr, hml, hown, hts, hX, hbl, hlocks, hgv⟩, hU, hAr, hb0, hL⟩ := X
  obtain ⟨hS, hv, hce, hsl, hlv⟩ := hI
  have htm : ∀ w ∈ mc_ws, w.before #[Value.ref b] s = true := fun w hw => hts w (List.mem_filter.mp hw).1
  have S : CallFix p m c code 7 s #[Value.ref b] lw_tbl R_law := ⟨hx, hb, hml, hown, hts⟩
  have hcR : cells ≤ room_1.cells := (show cells ≤ 603072 by omega)
  have hsR : slots ≤ room_1.slots := (show slots ≤ 7211114 by have := lw_us; omega)
  refine lv_aload_n hx hb dL_law_165 rfl (lv_at hlv 3 rfl) ?_
  refine lw_ld X0 (j := 1) hk hS.2.1 (lv_at hlv 4 rfl) (lv_at hlv 0 rfl) (by decide) dL_law_166 rfl dL_law_167 rfl dL_law_169 rfl dL_law_170 rfl dL_law_171 rfl ?_
  refine lw_ld X0 (j := 2) hk hS.2.1 (lv_at hlv 4 rfl) (lv_at hlv 0 rfl) (by decide) dL_law_172 rfl dL_law_173 rfl dL_law_175 rfl dL_law_176 rfl dL_law_177 rfl ?_
  refine gc_callV (E := E) (a := 0) (ci := 13) (as := [.inl (xs (5 * k + 1)), .inl (xs (5 * k + 2))]) (n := 2) (rest := []) (Φ := fun r σ1 => Wp miX12_local 0 [(0, .inr (some 167)), (1, .inl (xs (5 * k + 1))), (2, .inl (xs (5 * k + 2)))] [] σ1 (fun rv2 σ2 => rv2 = some (.inl r) ∧ ∃ K', pIn K' σ2)) S htm hU.1 (y := 105) (u := mkX11_local) rfl (hts _ (by decide +kernel)) (hts _ (by decide +kernel)) (hts _ (by decide +kernel)) (by decide) (by decide) rfl rfl (by decide) rfl rfl (by decide +kernel) (by decide) dL_law_178 hlv.1 (by decide) hcR hsR (pa_local hp (xs (5 * k + 1)) (xs (5 * k + 2))) hS (fun r σ1 H1 locs1 hw1 hS1 hl1 => ?_)
  refine lv_aload_n hx hb dL_law_181 rfl (lv_at hlv 2 rfl) ?_
  refine lw_ld X0 (j := 1) hk hS1.2.1 (lv_at hlv 4 rfl) (lv_at hlv 0 rfl) (by decide) dL_law_182 rfl dL_law_183 rfl dL_law_185 rfl dL_law_186 rfl dL_law_187 rfl ?_
  refine lw_ld X0 (j := 2) hk hS1.2.1 (lv_at hlv 4 rfl) (lv_at hlv 0 rfl) (by decide) dL_law_188 rfl dL_law_189 rfl dL_law_191 rfl dL_law_192 rfl dL_law_193 rfl ?_
  refine gc_callV (E := E) (a := 167) (ci := 14) (as := [.inl (xs (5 * k + 1)), .inl (xs (5 * k + 2))]) (n := 2) (rest := [.int r]) (Φ := fun r2 σ2 => r2 = r ∧ ∃ K', pIn K' σ2) S htm hU.1 (y := 141) (u := mkX12_local) rfl (hts _ (by decide +kernel)) (hts _ (by decide +kernel)) (hts _ (by decide +kernel)) (by decide) (by decide) rfl rfl (by decide) rfl rfl (by decide +kernel) (by decide) dL_law_194 hlv.1 (Nat.le_of_ble_eq_true rfl) hcR hsR (hw1.mono (fun rv σ2 q => ⟨r, q.1, rfl, q.2⟩)) hS1 (fun r2 σ2 H2 locs2 h2 hS2 hl2 => ?_)
  obtain ⟨rfl, K', hp'⟩ := h2
  refine lv_icmp_eq hx hb dL_law_197 (tgt := 618) rfl (fun _ => ?_) (fun h => absurd rfl h)
  exact back K' σ2 H2 locs2 cells slots ls hp' ⟨hS2, lo_C.k2 hv hl1 hl2, by omega, by omega, hlv⟩
set_option maxHeartbeats 4000000 in
set_option maxRecDepth 100000 in
theorem lw_c2 (X : lw_X p s m meth c b L xs E sa cA) {k cells slots : Nat} (hk : 5 * k + 5 ≤ L) {K : kS} {σ : mc_G} (hp : pIn K σ) {H : Heap} {locs : List Loc} {ls : Array Slot} (hI : lw_I E cA s b (5 * k) k σ H locs cells slots ls)
    (back : ∀ (K : kS) (σ : mc_G) (H : Heap) (locs : List Loc) (cells slots : Nat) (ls : Array Slot), pIn K σ → lw_I E cA s b (5 * k) (k + 1) σ H locs cells slots ls → W p l e room_1 s m #[Value.ref b] below meth c H locs cells slots Q (F0 m 618 ls [])) : W p l e room_1 s m #[Value.ref b] below meth c H locs cells slots Q (F0 m 202 ls []) := by
  have X0 := X
  obtain ⟨⟨hx, hb, hr, hml, hown, hts, hX, hbl, hlocks, hgv⟩, hU, hAr, hb0, hL⟩ := X
  obtain ⟨hS, hv, hce, hsl, hlv⟩ := hI
  have htm : ∀ w ∈ mc_ws, w.before #[Value.ref b] s = true := fun w hw => hts w (List.mem_filter.mp hw).1
  have S : CallFix p m c code 7 s #[Value.ref b] lw_tbl R_law := ⟨hx, hb, hml, hown, hts⟩
  have hcR : cells ≤ room_1.cells := (show cells ≤ 603072 by omega)
  have hsR : slots ≤ room_1.slots := (show slots ≤ 7211114 by have := lw_us; omega)
  refine lv_aload_n hx hb dL_law_202 rfl (lv_at hlv 3 rfl) ?_
  refine lw_ld X0 (j := 1) hk hS.2.1 (lv_at hlv 4 rfl) (lv_at hlv 0 rfl) (by decide) dL_law_203 rfl dL_law_204 rfl dL_law_206 rfl dL_law_207 rfl dL_law_208 rfl ?_
  refine lw_ld X0 (j := 2) hk hS.2.1 (lv_at hlv 4 rfl) (lv_at hlv 0 rfl) (by decide) dL_law_209 rfl dL_law_210 rfl dL_law_212 rfl dL_law_213 rfl dL_law_214 rfl ?_
  refine gc_callV (E := E) (a := 0) (ci := 13) (as := [.inl (xs (5 * k + 1)), .inl (xs (5 * k + 2))]) (n := 2) (rest := []) (Φ := fun r σ1 => Wp miX12_op 0 [(0, .inr (some 167)), (1, .inl (xs (5 * k + 1))), (2, .inl (xs (5 * k + 2)))] [] σ1 (fun rv2 σ2 => rv2 = some (.inl r) ∧ ∃ K', pIn K' σ2)) S htm hU.1 (y := 106) (u := mkX11_op) rfl (hts _ (by decide +kernel)) (hts _ (by decide +kernel)) (hts _ (by decide +kernel)) (by decide) (by decide) rfl rfl (by decide) rfl rfl (by decide +kernel) (by decide) dL_law_215 hlv.1 (by decide) hcR hsR (pa_op hp (xs (5 * k + 1)) (xs (5 * k + 2))) hS (fun r σ1 H1 locs1 hw1 hS1 hl1 => ?_)
  refine lv_aload_n hx hb dL_law_218 rfl (lv_at hlv 2 rfl) ?_
  refine lw_ld X0 (j := 1) hk hS1.2.1 (lv_at hlv 4 rfl) (lv_at hlv 0 rfl) (by decide) dL_law_219 rfl dL_law_220 rfl dL_law_222 rfl dL_law_223 rfl dL_law_224 rfl ?_
  refine lw_ld X0 (j := 2) hk hS1.2.1 (lv_at hlv 4 rfl) (lv_at hlv 0 rfl) (by decide) dL_law_225 rfl dL_law_226 rfl dL_law_228 rfl dL_law_229 rfl dL_law_230 rfl ?_
  refine gc_callV (E := E) (a := 167) (ci := 14) (as := [.inl (xs (5 * k + 1)), .inl (xs (5 * k + 2))]) (n := 2) (rest := [.int r]) (Φ := fun r2 σ2 => r2 = r ∧ ∃ K', pIn K' σ2) S htm hU.1 (y := 142) (u := mkX12_op) rfl (hts _ (by decide +kernel)) (hts _ (by decide +kernel)) (hts _ (by decide +kernel)) (by decide) (by decide) rfl rfl (by decide) rfl rfl (by decide +kernel) (by decide) dL_law_231 hlv.1 (Nat.le_of_ble_eq_true rfl) hcR hsR (hw1.mono (fun rv σ2 q => ⟨r, q.1, rfl, q.2⟩)) hS1 (fun r2 σ2 H2 locs2 h2 hS2 hl2 => ?_)
  obtain ⟨rfl, K', hp'⟩ := h2
  refine lv_icmp_eq hx hb dL_law_234 (tgt := 618) rfl (fun _ => ?_) (fun h => absurd rfl h)
  exact back K' σ2 H2 locs2 cells slots ls hp' ⟨hS2, lo_C.k2 hv hl1 hl2, by omega, by omega, hlv⟩
set_option maxHeartbeats 4000000 in
set_option maxRecDepth 100000 in
theorem lw_c3 (X : lw_X p s m meth c b L xs E sa cA) {k cells slots : Nat} (hk : 5 * k + 5 ≤ L) {K : kS} {σ : mc_G} (hp : pIn K σ) {H : Heap} {locs : List Loc} {ls : Array Slot} (hI : lw_I E cA s b (5 * k) k σ H locs cells slots ls)
    (back : ∀ (K : kS) (σ : mc_G) (H : Heap) (locs : List Loc) (cells slots : Nat) (ls : Array Slot), pIn K σ → lw_I E cA s b (5 * k) (k + 1) σ H locs cells slots ls → W p l e room_1 s m #[Value.ref b] below meth c H locs cells slots Q (F0 m 618 ls [])) : W p l e room_1 s m #[Value.ref b] below meth c H locs cells slots Q (F0 m 239 ls []) := by
  have X0 := X
  obtain ⟨⟨hx, hb, hr, hml, hown, hts, hX, hbl, hlocks, hgv⟩, hU, hAr, hb0, hL⟩ := X
  obtain ⟨hS, hv, hce, hsl, hlv⟩ := hI
  have htm : ∀ w ∈ mc_ws, w.before #[Value.ref b] s = true := fun w hw => hts w (List.mem_filter.mp hw).1
  have S : CallFix p m c code 7 s #[Value.ref b] lw_tbl R_law := ⟨hx, hb, hml, hown, hts⟩
  have hcR : cells ≤ room_1.cells := (show cells ≤ 603072 by omega)
  have hsR : slots ≤ room_1.slots := (show slots ≤ 7211114 by have := lw_us; omega)
  refine lv_aload_n hx hb dL_law_239 rfl (lv_at hlv 3 rfl) ?_
  refine lw_ld X0 (j := 1) hk hS.2.1 (lv_at hlv 4 rfl) (lv_at hlv 0 rfl) (by decide) dL_law_240 rfl dL_law_241 rfl dL_law_243 rfl dL_law_244 rfl dL_law_245 rfl ?_
  refine lw_ld X0 (j := 2) hk hS.2.1 (lv_at hlv 4 rfl) (lv_at hlv 0 rfl) (by decide) dL_law_246 rfl dL_law_247 rfl dL_law_249 rfl dL_law_250 rfl dL_law_251 rfl ?_
  refine lw_ld X0 (j := 3) hk hS.2.1 (lv_at hlv 4 rfl) (lv_at hlv 0 rfl) (by decide) dL_law_252 rfl dL_law_253 rfl dL_law_255 rfl dL_law_256 rfl dL_law_257 rfl ?_
  refine lw_ld X0 (j := 4) hk hS.2.1 (lv_at hlv 4 rfl) (lv_at hlv 0 rfl) (by decide) dL_law_258 rfl dL_law_259 rfl dL_law_261 rfl dL_law_262 rfl dL_law_263 rfl ?_
  refine gc_callV (E := E) (a := 0) (ci := 13) (as := [.inl (xs (5 * k + 1)), .inl (xs (5 * k + 2)), .inl (xs (5 * k + 3)), .inl (xs (5 * k + 4))]) (n := 4) (rest := []) (Φ := fun r σ1 => Wp miX12_handler 0 [(0, .inr (some 167)), (1, .inl (xs (5 * k + 1))), (2, .inl (xs (5 * k + 2))), (3, .inl (xs (5 * k + 3))), (4, .inl (xs (5 * k + 4)))] [] σ1 (fun rv2 σ2 => rv2 = some (.inl r) ∧ ∃ K', pIn K' σ2)) S htm hU.1 (y := 107) (u := mkX11_handler) rfl (hts _ (by decide +kernel)) (hts _ (by decide +kernel)) (hts _ (by decide +kernel)) (by decide) (by decide) rfl rfl (by decide) rfl rfl (by decide +kernel) (by decide) dL_law_264 hlv.1 (by decide) hcR hsR (pa_handler hp (xs (5 * k + 1)) (xs (5 * k + 2)) (xs (5 * k + 3)) (xs (5 * k + 4))) hS (fun r σ1 H1 locs1 hw1 hS1 hl1 => ?_)
  refine lv_aload_n hx hb dL_law_267 rfl (lv_at hlv 2 rfl) ?_
  refine lw_ld X0 (j := 1) hk hS1.2.1 (lv_at hlv 4 rfl) (lv_at hlv 0 rfl) (by decide) dL_law_268 rfl dL_law_269 rfl dL_law_271 rfl dL_law_272 rfl dL_law_273 rfl ?_
  refine lw_ld X0 (j := 2) hk hS1.2.1 (lv_at hlv 4 rfl) (lv_at hlv 0 rfl) (by decide) dL_law_274 rfl dL_law_275 rfl dL_law_277 rfl dL_law_278 rfl dL_law_279 rfl ?_
  refine lw_ld X0 (j := 3) hk hS1.2.1 (lv_at hlv 4 rfl) (lv_at hlv 0 rfl) (by decide) dL_law_280 rfl dL_law_281 rfl dL_law_283 rfl dL_law_284 rfl dL_law_285 rfl ?_
  refine lw_ld X0 (j := 4) hk hS1.2.1 (lv_at hlv 4 rfl) (lv_at hlv 0 rfl) (by decide) dL_law_286 rfl dL_law_287 rfl dL_law_289 rfl dL_law_290 rfl dL_law_291 rfl ?_
  refine gc_callV (E := E) (a := 167) (ci := 14) (as := [.inl (xs (5 * k + 1)), .inl (xs (5 * k + 2)), .inl (xs (5 * k + 3)), .inl (xs (5 * k + 4))]) (n := 4) (rest := [.int r]) (Φ := fun r2 σ2 => r2 = r ∧ ∃ K', pIn K' σ2) S htm hU.1 (y := 143) (u := mkX12_handler) rfl (hts _ (by decide +kernel)) (hts _ (by decide +kernel)) (hts _ (by decide +kernel)) (by decide) (by decide) rfl rfl (by decide) rfl rfl (by decide +kernel) (by decide) dL_law_292 hlv.1 (Nat.le_of_ble_eq_true rfl) hcR hsR (hw1.mono (fun rv σ2 q => ⟨r, q.1, rfl, q.2⟩)) hS1 (fun r2 σ2 H2 locs2 h2 hS2 hl2 => ?_)
  obtain ⟨rfl, K', hp'⟩ := h2
  refine lv_icmp_eq hx hb dL_law_295 (tgt := 618) rfl (fun _ => ?_) (fun h => absurd rfl h)
  exact back K' σ2 H2 locs2 cells slots ls hp' ⟨hS2, lo_C.k2 hv hl1 hl2, by omega, by omega, hlv⟩
set_option maxHeartbeats 4000000 in
set_option maxRecDepth 100000 in
theorem lw_c4 (X : lw_X p s m meth c b L xs E sa cA) {k cells slots : Nat} (hk : 5 * k + 5 ≤ L) {K : kS} {σ : mc_G} (hp : pIn K σ) {H : Heap} {locs : List Loc} {ls : Array Slot} (hI : lw_I E cA s b (5 * k) k σ H locs cells slots ls)
    (back : ∀ (K : kS) (σ : mc_G) (H : Heap) (locs : List Loc) (cells slots : Nat) (ls : Array Slot), pIn K σ → lw_I E cA s b (5 * k) (k + 1) σ H locs cells slots ls → W p l e room_1 s m #[Value.ref b] below meth c H locs cells slots Q (F0 m 618 ls [])) : W p l e room_1 s m #[Value.ref b] below meth c H locs cells slots Q (F0 m 300 ls []) := by
  have X0 := X
  obtain ⟨⟨hx, hb, hr, hml, hown, hts, hX, hbl, hlocks, hgv⟩, hU, hAr, hb0, hL⟩ := X
  obtain ⟨hS, hv, hce, hsl, hlv⟩ := hI
  have htm : ∀ w ∈ mc_ws, w.before #[Value.ref b] s = true := fun w hw => hts w (List.mem_filter.mp hw).1
  have S : CallFix p m c code 7 s #[Value.ref b] lw_tbl R_law := ⟨hx, hb, hml, hown, hts⟩
  have hcR : cells ≤ room_1.cells := (show cells ≤ 603072 by omega)
  have hsR : slots ≤ room_1.slots := (show slots ≤ 7211114 by have := lw_us; omega)
  refine lv_aload_n hx hb dL_law_300 rfl (lv_at hlv 3 rfl) ?_
  refine gc_callV (E := E) (a := 0) (ci := 13) (as := []) (n := 0) (rest := []) (Φ := fun r σ1 => Wp miX12_make 0 [(0, .inr (some 167))] [] σ1 (fun rv2 σ2 => rv2 = some (.inl r) ∧ ∃ K', pIn K' σ2)) S htm hU.1 (y := 108) (u := mkX11_make) rfl (hts _ (by decide +kernel)) (hts _ (by decide +kernel)) (hts _ (by decide +kernel)) (by decide) (by decide) rfl rfl (by decide) rfl rfl (by decide +kernel) (by decide) dL_law_301 hlv.1 (by decide) hcR hsR (pa_make hp ) hS (fun r σ1 H1 locs1 hw1 hS1 hl1 => ?_)
  refine lv_aload_n hx hb dL_law_304 rfl (lv_at hlv 2 rfl) ?_
  refine gc_callV (E := E) (a := 167) (ci := 14) (as := []) (n := 0) (rest := [.int r]) (Φ := fun r2 σ2 => r2 = r ∧ ∃ K', pIn K' σ2) S htm hU.1 (y := 176) (u := mkX12_make) rfl (hts _ (by decide +kernel)) (hts _ (by decide +kernel)) (hts _ (by decide +kernel)) (by decide) (by decide) rfl rfl (by decide) rfl rfl (by decide +kernel) (by decide) dL_law_305 hlv.1 (Nat.le_of_ble_eq_true rfl) hcR hsR (hw1.mono (fun rv σ2 q => ⟨r, q.1, rfl, q.2⟩)) hS1 (fun r2 σ2 H2 locs2 h2 hS2 hl2 => ?_)
  obtain ⟨rfl, K', hp'⟩ := h2
  refine lv_icmp_eq hx hb dL_law_308 (tgt := 618) rfl (fun _ => ?_) (fun h => absurd rfl h)
  exact back K' σ2 H2 locs2 cells slots ls hp' ⟨hS2, lo_C.k2 hv hl1 hl2, by omega, by omega, hlv⟩
set_option maxHeartbeats 4000000 in
set_option maxRecDepth 100000 in
theorem lw_c5 (X : lw_X p s m meth c b L xs E sa cA) {k cells slots : Nat} (hk : 5 * k + 5 ≤ L) {K : kS} {σ : mc_G} (hp : pIn K σ) {H : Heap} {locs : List Loc} {ls : Array Slot} (hI : lw_I E cA s b (5 * k) k σ H locs cells slots ls)
    (back : ∀ (K : kS) (σ : mc_G) (H : Heap) (locs : List Loc) (cells slots : Nat) (ls : Array Slot), pIn K σ → lw_I E cA s b (5 * k) (k + 1) σ H locs cells slots ls → W p l e room_1 s m #[Value.ref b] below meth c H locs cells slots Q (F0 m 618 ls [])) : W p l e room_1 s m #[Value.ref b] below meth c H locs cells slots Q (F0 m 313 ls []) := by
  have X0 := X
  obtain ⟨⟨hx, hb, hr, hml, hown, hts, hX, hbl, hlocks, hgv⟩, hU, hAr, hb0, hL⟩ := X
  obtain ⟨hS, hv, hce, hsl, hlv⟩ := hI
  have htm : ∀ w ∈ mc_ws, w.before #[Value.ref b] s = true := fun w hw => hts w (List.mem_filter.mp hw).1
  have S : CallFix p m c code 7 s #[Value.ref b] lw_tbl R_law := ⟨hx, hb, hml, hown, hts⟩
  have hcR : cells ≤ room_1.cells := (show cells ≤ 603072 by omega)
  have hsR : slots ≤ room_1.slots := (show slots ≤ 7211114 by have := lw_us; omega)
  refine lv_aload_n hx hb dL_law_313 rfl (lv_at hlv 3 rfl) ?_
  refine gc_callV (E := E) (a := 0) (ci := 13) (as := []) (n := 0) (rest := []) (Φ := fun r σ1 => Wp miX12_fault 0 [(0, .inr (some 167))] [] σ1 (fun rv2 σ2 => rv2 = some (.inl r) ∧ ∃ K', pIn K' σ2)) S htm hU.1 (y := 109) (u := mkX11_fault) rfl (hts _ (by decide +kernel)) (hts _ (by decide +kernel)) (hts _ (by decide +kernel)) (by decide) (by decide) rfl rfl (by decide) rfl rfl (by decide +kernel) (by decide) dL_law_314 hlv.1 (by decide) hcR hsR (pa_fault hp ) hS (fun r σ1 H1 locs1 hw1 hS1 hl1 => ?_)
  refine lv_aload_n hx hb dL_law_317 rfl (lv_at hlv 2 rfl) ?_
  refine gc_callV (E := E) (a := 167) (ci := 14) (as := []) (n := 0) (rest := [.int r]) (Φ := fun r2 σ2 => r2 = r ∧ ∃ K', pIn K' σ2) S htm hU.1 (y := 177) (u := mkX12_fault) rfl (hts _ (by decide +kernel)) (hts _ (by decide +kernel)) (hts _ (by decide +kernel)) (by decide) (by decide) rfl rfl (by decide) rfl rfl (by decide +kernel) (by decide) dL_law_318 hlv.1 (Nat.le_of_ble_eq_true rfl) hcR hsR (hw1.mono (fun rv σ2 q => ⟨r, q.1, rfl, q.2⟩)) hS1 (fun r2 σ2 H2 locs2 h2 hS2 hl2 => ?_)
  obtain ⟨rfl, K', hp'⟩ := h2
  refine lv_icmp_eq hx hb dL_law_321 (tgt := 618) rfl (fun _ => ?_) (fun h => absurd rfl h)
  exact back K' σ2 H2 locs2 cells slots ls hp' ⟨hS2, lo_C.k2 hv hl1 hl2, by omega, by omega, hlv⟩
set_option maxHeartbeats 4000000 in
set_option maxRecDepth 100000 in
theorem lw_c6 (X : lw_X p s m meth c b L xs E sa cA) {k cells slots : Nat} (hk : 5 * k + 5 ≤ L) {K : kS} {σ : mc_G} (hp : pIn K σ) {H : Heap} {locs : List Loc} {ls : Array Slot} (hI : lw_I E cA s b (5 * k) k σ H locs cells slots ls)
    (back : ∀ (K : kS) (σ : mc_G) (H : Heap) (locs : List Loc) (cells slots : Nat) (ls : Array Slot), pIn K σ → lw_I E cA s b (5 * k) (k + 1) σ H locs cells slots ls → W p l e room_1 s m #[Value.ref b] below meth c H locs cells slots Q (F0 m 618 ls [])) : W p l e room_1 s m #[Value.ref b] below meth c H locs cells slots Q (F0 m 326 ls []) := by
  have X0 := X
  obtain ⟨⟨hx, hb, hr, hml, hown, hts, hX, hbl, hlocks, hgv⟩, hU, hAr, hb0, hL⟩ := X
  obtain ⟨hS, hv, hce, hsl, hlv⟩ := hI
  have htm : ∀ w ∈ mc_ws, w.before #[Value.ref b] s = true := fun w hw => hts w (List.mem_filter.mp hw).1
  have S : CallFix p m c code 7 s #[Value.ref b] lw_tbl R_law := ⟨hx, hb, hml, hown, hts⟩
  have hcR : cells ≤ room_1.cells := (show cells ≤ 603072 by omega)
  have hsR : slots ≤ room_1.slots := (show slots ≤ 7211114 by have := lw_us; omega)
  refine lv_aload_n hx hb dL_law_326 rfl (lv_at hlv 3 rfl) ?_
  refine lw_ld X0 (j := 1) hk hS.2.1 (lv_at hlv 4 rfl) (lv_at hlv 0 rfl) (by decide) dL_law_327 rfl dL_law_328 rfl dL_law_330 rfl dL_law_331 rfl dL_law_332 rfl ?_
  refine lw_ld X0 (j := 2) hk hS.2.1 (lv_at hlv 4 rfl) (lv_at hlv 0 rfl) (by decide) dL_law_333 rfl dL_law_334 rfl dL_law_336 rfl dL_law_337 rfl dL_law_338 rfl ?_
  refine gc_callV (E := E) (a := 0) (ci := 13) (as := [.inl (xs (5 * k + 1)), .inl (xs (5 * k + 2))]) (n := 2) (rest := []) (Φ := fun r σ1 => Wp miX12_state 0 [(0, .inr (some 167)), (1, .inl (xs (5 * k + 1))), (2, .inl (xs (5 * k + 2)))] [] σ1 (fun rv2 σ2 => rv2 = some (.inl r) ∧ ∃ K', pIn K' σ2)) S htm hU.1 (y := 110) (u := mkX11_state) rfl (hts _ (by decide +kernel)) (hts _ (by decide +kernel)) (hts _ (by decide +kernel)) (by decide) (by decide) rfl rfl (by decide) rfl rfl (by decide +kernel) (by decide) dL_law_339 hlv.1 (by decide) hcR hsR (pa_state hp (xs (5 * k + 1)) (xs (5 * k + 2))) hS (fun r σ1 H1 locs1 hw1 hS1 hl1 => ?_)
  refine lv_aload_n hx hb dL_law_342 rfl (lv_at hlv 2 rfl) ?_
  refine lw_ld X0 (j := 1) hk hS1.2.1 (lv_at hlv 4 rfl) (lv_at hlv 0 rfl) (by decide) dL_law_343 rfl dL_law_344 rfl dL_law_346 rfl dL_law_347 rfl dL_law_348 rfl ?_
  refine lw_ld X0 (j := 2) hk hS1.2.1 (lv_at hlv 4 rfl) (lv_at hlv 0 rfl) (by decide) dL_law_349 rfl dL_law_350 rfl dL_law_352 rfl dL_law_353 rfl dL_law_354 rfl ?_
  refine gc_callV (E := E) (a := 167) (ci := 14) (as := [.inl (xs (5 * k + 1)), .inl (xs (5 * k + 2))]) (n := 2) (rest := [.int r]) (Φ := fun r2 σ2 => r2 = r ∧ ∃ K', pIn K' σ2) S htm hU.1 (y := 178) (u := mkX12_state) rfl (hts _ (by decide +kernel)) (hts _ (by decide +kernel)) (hts _ (by decide +kernel)) (by decide) (by decide) rfl rfl (by decide) rfl rfl (by decide +kernel) (by decide) dL_law_355 hlv.1 (Nat.le_of_ble_eq_true rfl) hcR hsR (hw1.mono (fun rv σ2 q => ⟨r, q.1, rfl, q.2⟩)) hS1 (fun r2 σ2 H2 locs2 h2 hS2 hl2 => ?_)
  obtain ⟨rfl, K', hp'⟩ := h2
  refine lv_icmp_eq hx hb dL_law_358 (tgt := 618) rfl (fun _ => ?_) (fun h => absurd rfl h)
  exact back K' σ2 H2 locs2 cells slots ls hp' ⟨hS2, lo_C.k2 hv hl1 hl2, by omega, by omega, hlv⟩
set_option maxHeartbeats 4000000 in
set_option maxRecDepth 100000 in
theorem lw_c7 (X : lw_X p s m meth c b L xs E sa cA) {k cells slots : Nat} (hk : 5 * k + 5 ≤ L) {K : kS} {σ : mc_G} (hp : pIn K σ) {H : Heap} {locs : List Loc} {ls : Array Slot} (hI : lw_I E cA s b (5 * k) k σ H locs cells slots ls)
    (back : ∀ (K : kS) (σ : mc_G) (H : Heap) (locs : List Loc) (cells slots : Nat) (ls : Array Slot), pIn K σ → lw_I E cA s b (5 * k) (k + 1) σ H locs cells slots ls → W p l e room_1 s m #[Value.ref b] below meth c H locs cells slots Q (F0 m 618 ls [])) : W p l e room_1 s m #[Value.ref b] below meth c H locs cells slots Q (F0 m 363 ls []) := by
  have X0 := X
  obtain ⟨⟨hx, hb, hr, hml, hown, hts, hX, hbl, hlocks, hgv⟩, hU, hAr, hb0, hL⟩ := X
  obtain ⟨hS, hv, hce, hsl, hlv⟩ := hI
  have htm : ∀ w ∈ mc_ws, w.before #[Value.ref b] s = true := fun w hw => hts w (List.mem_filter.mp hw).1
  have S : CallFix p m c code 7 s #[Value.ref b] lw_tbl R_law := ⟨hx, hb, hml, hown, hts⟩
  have hcR : cells ≤ room_1.cells := (show cells ≤ 603072 by omega)
  have hsR : slots ≤ room_1.slots := (show slots ≤ 7211114 by have := lw_us; omega)
  refine lv_aload_n hx hb dL_law_363 rfl (lv_at hlv 3 rfl) ?_
  refine lw_ld X0 (j := 1) hk hS.2.1 (lv_at hlv 4 rfl) (lv_at hlv 0 rfl) (by decide) dL_law_364 rfl dL_law_365 rfl dL_law_367 rfl dL_law_368 rfl dL_law_369 rfl ?_
  refine gc_callV (E := E) (a := 0) (ci := 13) (as := [.inl (xs (5 * k + 1))]) (n := 1) (rest := []) (Φ := fun r σ1 => Wp miX12_frame_ 0 [(0, .inr (some 167)), (1, .inl (xs (5 * k + 1)))] [] σ1 (fun rv2 σ2 => rv2 = some (.inl r) ∧ ∃ K', pIn K' σ2)) S htm hU.1 (y := 111) (u := mkX11_frame) rfl (hts _ (by decide +kernel)) (hts _ (by decide +kernel)) (hts _ (by decide +kernel)) (by decide) (by decide) rfl rfl (by decide) rfl rfl (by decide +kernel) (by decide) dL_law_370 hlv.1 (by decide) hcR hsR (pa_frame hp (xs (5 * k + 1))) hS (fun r σ1 H1 locs1 hw1 hS1 hl1 => ?_)
  refine lv_aload_n hx hb dL_law_373 rfl (lv_at hlv 2 rfl) ?_
  refine lw_ld X0 (j := 1) hk hS1.2.1 (lv_at hlv 4 rfl) (lv_at hlv 0 rfl) (by decide) dL_law_374 rfl dL_law_375 rfl dL_law_377 rfl dL_law_378 rfl dL_law_379 rfl ?_
  refine gc_callV (E := E) (a := 167) (ci := 14) (as := [.inl (xs (5 * k + 1))]) (n := 1) (rest := [.int r]) (Φ := fun r2 σ2 => r2 = r ∧ ∃ K', pIn K' σ2) S htm hU.1 (y := 179) (u := mkX12_frame_) rfl (hts _ (by decide +kernel)) (hts _ (by decide +kernel)) (hts _ (by decide +kernel)) (by decide) (by decide) rfl rfl (by decide) rfl rfl (by decide +kernel) (by decide) dL_law_380 hlv.1 (Nat.le_of_ble_eq_true rfl) hcR hsR (hw1.mono (fun rv σ2 q => ⟨r, q.1, rfl, q.2⟩)) hS1 (fun r2 σ2 H2 locs2 h2 hS2 hl2 => ?_)
  obtain ⟨rfl, K', hp'⟩ := h2
  refine lv_icmp_eq hx hb dL_law_383 (tgt := 618) rfl (fun _ => ?_) (fun h => absurd rfl h)
  exact back K' σ2 H2 locs2 cells slots ls hp' ⟨hS2, lo_C.k2 hv hl1 hl2, by omega, by omega, hlv⟩
set_option maxHeartbeats 4000000 in
set_option maxRecDepth 100000 in
theorem lw_c8 (X : lw_X p s m meth c b L xs E sa cA) {k cells slots : Nat} (hk : 5 * k + 5 ≤ L) {K : kS} {σ : mc_G} (hp : pIn K σ) {H : Heap} {locs : List Loc} {ls : Array Slot} (hI : lw_I E cA s b (5 * k) k σ H locs cells slots ls)
    (back : ∀ (K : kS) (σ : mc_G) (H : Heap) (locs : List Loc) (cells slots : Nat) (ls : Array Slot), pIn K σ → lw_I E cA s b (5 * k) (k + 1) σ H locs cells slots ls → W p l e room_1 s m #[Value.ref b] below meth c H locs cells slots Q (F0 m 618 ls [])) : W p l e room_1 s m #[Value.ref b] below meth c H locs cells slots Q (F0 m 388 ls []) := by
  have X0 := X
  obtain ⟨⟨hx, hb, hr, hml, hown, hts, hX, hbl, hlocks, hgv⟩, hU, hAr, hb0, hL⟩ := X
  obtain ⟨hS, hv, hce, hsl, hlv⟩ := hI
  have htm : ∀ w ∈ mc_ws, w.before #[Value.ref b] s = true := fun w hw => hts w (List.mem_filter.mp hw).1
  have S : CallFix p m c code 7 s #[Value.ref b] lw_tbl R_law := ⟨hx, hb, hml, hown, hts⟩
  have hcR : cells ≤ room_1.cells := (show cells ≤ 603072 by omega)
  have hsR : slots ≤ room_1.slots := (show slots ≤ 7211114 by have := lw_us; omega)
  refine lv_aload_n hx hb dL_law_388 rfl (lv_at hlv 3 rfl) ?_
  refine gc_callV (E := E) (a := 0) (ci := 13) (as := []) (n := 0) (rest := []) (Φ := fun r σ1 => Wp miX12_packed 0 [(0, .inr (some 167))] [] σ1 (fun rv2 σ2 => rv2 = some (.inl r) ∧ ∃ K', pIn K' σ2)) S htm hU.1 (y := 112) (u := mkX11_packed) rfl (hts _ (by decide +kernel)) (hts _ (by decide +kernel)) (hts _ (by decide +kernel)) (by decide) (by decide) rfl rfl (by decide) rfl rfl (by decide +kernel) (by decide) dL_law_389 hlv.1 (by decide) hcR hsR (pa_packed hp ) hS (fun r σ1 H1 locs1 hw1 hS1 hl1 => ?_)
  refine lv_aload_n hx hb dL_law_392 rfl (lv_at hlv 2 rfl) ?_
  refine gc_callV (E := E) (a := 167) (ci := 14) (as := []) (n := 0) (rest := [.int r]) (Φ := fun r2 σ2 => r2 = r ∧ ∃ K', pIn K' σ2) S htm hU.1 (y := 180) (u := mkX12_packed) rfl (hts _ (by decide +kernel)) (hts _ (by decide +kernel)) (hts _ (by decide +kernel)) (by decide) (by decide) rfl rfl (by decide) rfl rfl (by decide +kernel) (by decide) dL_law_393 hlv.1 (Nat.le_of_ble_eq_true rfl) hcR hsR (hw1.mono (fun rv σ2 q => ⟨r, q.1, rfl, q.2⟩)) hS1 (fun r2 σ2 H2 locs2 h2 hS2 hl2 => ?_)
  obtain ⟨rfl, K', hp'⟩ := h2
  refine lv_icmp_eq hx hb dL_law_396 (tgt := 618) rfl (fun _ => ?_) (fun h => absurd rfl h)
  exact back K' σ2 H2 locs2 cells slots ls hp' ⟨hS2, lo_C.k2 hv hl1 hl2, by omega, by omega, hlv⟩
set_option maxHeartbeats 4000000 in
set_option maxRecDepth 100000 in
theorem lw_c10 (X : lw_X p s m meth c b L xs E sa cA) {k cells slots : Nat} (hk : 5 * k + 5 ≤ L) {K : kS} {σ : mc_G} (hp : pIn K σ) {H : Heap} {locs : List Loc} {ls : Array Slot} (hI : lw_I E cA s b (5 * k) k σ H locs cells slots ls)
    (back : ∀ (K : kS) (σ : mc_G) (H : Heap) (locs : List Loc) (cells slots : Nat) (ls : Array Slot), pIn K σ → lw_I E cA s b (5 * k) (k + 1) σ H locs cells slots ls → W p l e room_1 s m #[Value.ref b] below meth c H locs cells slots Q (F0 m 618 ls [])) : W p l e room_1 s m #[Value.ref b] below meth c H locs cells slots Q (F0 m 457 ls []) := by
  have X0 := X
  obtain ⟨⟨hx, hb, hr, hml, hown, hts, hX, hbl, hlocks, hgv⟩, hU, hAr, hb0, hL⟩ := X
  obtain ⟨hS, hv, hce, hsl, hlv⟩ := hI
  have htm : ∀ w ∈ mc_ws, w.before #[Value.ref b] s = true := fun w hw => hts w (List.mem_filter.mp hw).1
  have S : CallFix p m c code 7 s #[Value.ref b] lw_tbl R_law := ⟨hx, hb, hml, hown, hts⟩
  have hcR : cells ≤ room_1.cells := (show cells ≤ 603072 by omega)
  have hsR : slots ≤ room_1.slots := (show slots ≤ 7211114 by have := lw_us; omega)
  refine lv_aload_n hx hb dL_law_457 rfl (lv_at hlv 3 rfl) ?_
  refine lw_ld X0 (j := 1) hk hS.2.1 (lv_at hlv 4 rfl) (lv_at hlv 0 rfl) (by decide) dL_law_458 rfl dL_law_459 rfl dL_law_461 rfl dL_law_462 rfl dL_law_463 rfl ?_
  refine lw_ld X0 (j := 2) hk hS.2.1 (lv_at hlv 4 rfl) (lv_at hlv 0 rfl) (by decide) dL_law_464 rfl dL_law_465 rfl dL_law_467 rfl dL_law_468 rfl dL_law_469 rfl ?_
  refine lw_ld X0 (j := 3) hk hS.2.1 (lv_at hlv 4 rfl) (lv_at hlv 0 rfl) (by decide) dL_law_470 rfl dL_law_471 rfl dL_law_473 rfl dL_law_474 rfl dL_law_475 rfl ?_
  refine gc_callV (E := E) (a := 0) (ci := 13) (as := [.inl (xs (5 * k + 1)), .inl (xs (5 * k + 2)), .inl (xs (5 * k + 3))]) (n := 3) (rest := []) (Φ := fun r σ1 => Wp miX12_plant 0 [(0, .inr (some 167)), (1, .inl (xs (5 * k + 1))), (2, .inl (xs (5 * k + 2))), (3, .inl (xs (5 * k + 3)))] [] σ1 (fun rv2 σ2 => rv2 = some (.inl r) ∧ ∃ K', pIn K' σ2)) S htm hU.1 (y := 113) (u := mkX11_plant) rfl (hts _ (by decide +kernel)) (hts _ (by decide +kernel)) (hts _ (by decide +kernel)) (by decide) (by decide) rfl rfl (by decide) rfl rfl (by decide +kernel) (by decide) dL_law_476 hlv.1 (by decide) hcR hsR (pa_plant hp (xs (5 * k + 1)) (xs (5 * k + 2)) (xs (5 * k + 3))) hS (fun r σ1 H1 locs1 hw1 hS1 hl1 => ?_)
  refine lv_aload_n hx hb dL_law_479 rfl (lv_at hlv 2 rfl) ?_
  refine lw_ld X0 (j := 1) hk hS1.2.1 (lv_at hlv 4 rfl) (lv_at hlv 0 rfl) (by decide) dL_law_480 rfl dL_law_481 rfl dL_law_483 rfl dL_law_484 rfl dL_law_485 rfl ?_
  refine lw_ld X0 (j := 2) hk hS1.2.1 (lv_at hlv 4 rfl) (lv_at hlv 0 rfl) (by decide) dL_law_486 rfl dL_law_487 rfl dL_law_489 rfl dL_law_490 rfl dL_law_491 rfl ?_
  refine lw_ld X0 (j := 3) hk hS1.2.1 (lv_at hlv 4 rfl) (lv_at hlv 0 rfl) (by decide) dL_law_492 rfl dL_law_493 rfl dL_law_495 rfl dL_law_496 rfl dL_law_497 rfl ?_
  refine gc_callV (E := E) (a := 167) (ci := 14) (as := [.inl (xs (5 * k + 1)), .inl (xs (5 * k + 2)), .inl (xs (5 * k + 3))]) (n := 3) (rest := [.int r]) (Φ := fun r2 σ2 => r2 = r ∧ ∃ K', pIn K' σ2) S htm hU.1 (y := 182) (u := mkX12_plant) rfl (hts _ (by decide +kernel)) (hts _ (by decide +kernel)) (hts _ (by decide +kernel)) (by decide) (by decide) rfl rfl (by decide) rfl rfl (by decide +kernel) (by decide) dL_law_498 hlv.1 (Nat.le_of_ble_eq_true rfl) hcR hsR (hw1.mono (fun rv σ2 q => ⟨r, q.1, rfl, q.2⟩)) hS1 (fun r2 σ2 H2 locs2 h2 hS2 hl2 => ?_)
  obtain ⟨rfl, K', hp'⟩ := h2
  refine lv_icmp_eq hx hb dL_law_501 (tgt := 618) rfl (fun _ => ?_) (fun h => absurd rfl h)
  exact back K' σ2 H2 locs2 cells slots ls hp' ⟨hS2, lo_C.k2 hv hl1 hl2, by omega, by omega, hlv⟩
set_option maxHeartbeats 4000000 in
set_option maxRecDepth 100000 in
theorem lw_c11 (X : lw_X p s m meth c b L xs E sa cA) {k cells slots : Nat} (hk : 5 * k + 5 ≤ L) {K : kS} {σ : mc_G} (hp : pIn K σ) {H : Heap} {locs : List Loc} {ls : Array Slot} (hI : lw_I E cA s b (5 * k) k σ H locs cells slots ls)
    (back : ∀ (K : kS) (σ : mc_G) (H : Heap) (locs : List Loc) (cells slots : Nat) (ls : Array Slot), pIn K σ → lw_I E cA s b (5 * k) (k + 1) σ H locs cells slots ls → W p l e room_1 s m #[Value.ref b] below meth c H locs cells slots Q (F0 m 618 ls [])) : W p l e room_1 s m #[Value.ref b] below meth c H locs cells slots Q (F0 m 506 ls []) := by
  have X0 := X
  obtain ⟨⟨hx, hb, hr, hml, hown, hts, hX, hbl, hlocks, hgv⟩, hU, hAr, hb0, hL⟩ := X
  obtain ⟨hS, hv, hce, hsl, hlv⟩ := hI
  have htm : ∀ w ∈ mc_ws, w.before #[Value.ref b] s = true := fun w hw => hts w (List.mem_filter.mp hw).1
  have S : CallFix p m c code 7 s #[Value.ref b] lw_tbl R_law := ⟨hx, hb, hml, hown, hts⟩
  have hcR : cells ≤ room_1.cells := (show cells ≤ 603072 by omega)
  have hsR : slots ≤ room_1.slots := (show slots ≤ 7211114 by have := lw_us; omega)
  refine lv_aload_n hx hb dL_law_506 rfl (lv_at hlv 3 rfl) ?_
  refine gc_callV (E := E) (a := 0) (ci := 13) (as := []) (n := 0) (rest := []) (Φ := fun r σ1 => Wp miX12_judge 0 [(0, .inr (some 167))] [] σ1 (fun rv2 σ2 => rv2 = some (.inl r) ∧ ∃ K', pIn K' σ2)) S htm hU.1 (y := 114) (u := mkX11_judge) rfl (hts _ (by decide +kernel)) (hts _ (by decide +kernel)) (hts _ (by decide +kernel)) (by decide) (by decide) rfl rfl (by decide) rfl rfl (by decide +kernel) (by decide) dL_law_507 hlv.1 (by decide) hcR hsR (pa_judge hp ) hS (fun r σ1 H1 locs1 hw1 hS1 hl1 => ?_)
  refine lv_aload_n hx hb dL_law_510 rfl (lv_at hlv 2 rfl) ?_
  refine gc_callV (E := E) (a := 167) (ci := 14) (as := []) (n := 0) (rest := [.int r]) (Φ := fun r2 σ2 => r2 = r ∧ ∃ K', pIn K' σ2) S htm hU.1 (y := 185) (u := mkX12_judge) rfl (hts _ (by decide +kernel)) (hts _ (by decide +kernel)) (hts _ (by decide +kernel)) (by decide) (by decide) rfl rfl (by decide) rfl rfl (by decide +kernel) (by decide) dL_law_511 hlv.1 (Nat.le_of_ble_eq_true rfl) hcR hsR (hw1.mono (fun rv σ2 q => ⟨r, q.1, rfl, q.2⟩)) hS1 (fun r2 σ2 H2 locs2 h2 hS2 hl2 => ?_)
  obtain ⟨rfl, K', hp'⟩ := h2
  refine lv_icmp_eq hx hb dL_law_514 (tgt := 618) rfl (fun _ => ?_) (fun h => absurd rfl h)
  exact back K' σ2 H2 locs2 cells slots ls hp' ⟨hS2, lo_C.k2 hv hl1 hl2, by omega, by omega, hlv⟩
set_option maxHeartbeats 4000000 in
set_option maxRecDepth 100000 in
theorem lw_c12 (X : lw_X p s m meth c b L xs E sa cA) {k cells slots : Nat} (hk : 5 * k + 5 ≤ L) {K : kS} {σ : mc_G} (hp : pIn K σ) {H : Heap} {locs : List Loc} {ls : Array Slot} (hI : lw_I E cA s b (5 * k) k σ H locs cells slots ls)
    (back : ∀ (K : kS) (σ : mc_G) (H : Heap) (locs : List Loc) (cells slots : Nat) (ls : Array Slot), pIn K σ → lw_I E cA s b (5 * k) (k + 1) σ H locs cells slots ls → W p l e room_1 s m #[Value.ref b] below meth c H locs cells slots Q (F0 m 618 ls [])) : W p l e room_1 s m #[Value.ref b] below meth c H locs cells slots Q (F0 m 519 ls []) := by
  have X0 := X
  obtain ⟨⟨hx, hb, hr, hml, hown, hts, hX, hbl, hlocks, hgv⟩, hU, hAr, hb0, hL⟩ := X
  obtain ⟨hS, hv, hce, hsl, hlv⟩ := hI
  have htm : ∀ w ∈ mc_ws, w.before #[Value.ref b] s = true := fun w hw => hts w (List.mem_filter.mp hw).1
  have S : CallFix p m c code 7 s #[Value.ref b] lw_tbl R_law := ⟨hx, hb, hml, hown, hts⟩
  have hcR : cells ≤ room_1.cells := (show cells ≤ 603072 by omega)
  have hsR : slots ≤ room_1.slots := (show slots ≤ 7211114 by have := lw_us; omega)
  refine lv_aload_n hx hb dL_law_519 rfl (lv_at hlv 3 rfl) ?_
  refine lw_ld X0 (j := 1) hk hS.2.1 (lv_at hlv 4 rfl) (lv_at hlv 0 rfl) (by decide) dL_law_520 rfl dL_law_521 rfl dL_law_523 rfl dL_law_524 rfl dL_law_525 rfl ?_
  refine lw_ld X0 (j := 2) hk hS.2.1 (lv_at hlv 4 rfl) (lv_at hlv 0 rfl) (by decide) dL_law_526 rfl dL_law_527 rfl dL_law_529 rfl dL_law_530 rfl dL_law_531 rfl ?_
  refine gc_callV (E := E) (a := 0) (ci := 13) (as := [.inl (xs (5 * k + 1)), .inl (xs (5 * k + 2))]) (n := 2) (rest := []) (Φ := fun r σ1 => Wp miX12_joined 0 [(0, .inr (some 167)), (1, .inl (xs (5 * k + 1))), (2, .inl (xs (5 * k + 2)))] [] σ1 (fun rv2 σ2 => rv2 = some (.inl r) ∧ ∃ K', pIn K' σ2)) S htm hU.1 (y := 115) (u := mkX11_joined) rfl (hts _ (by decide +kernel)) (hts _ (by decide +kernel)) (hts _ (by decide +kernel)) (by decide) (by decide) rfl rfl (by decide) rfl rfl (by decide +kernel) (by decide) dL_law_532 hlv.1 (by decide) hcR hsR (pa_joined hp (xs (5 * k + 1)) (xs (5 * k + 2))) hS (fun r σ1 H1 locs1 hw1 hS1 hl1 => ?_)
  refine lv_aload_n hx hb dL_law_535 rfl (lv_at hlv 2 rfl) ?_
  refine lw_ld X0 (j := 1) hk hS1.2.1 (lv_at hlv 4 rfl) (lv_at hlv 0 rfl) (by decide) dL_law_536 rfl dL_law_537 rfl dL_law_539 rfl dL_law_540 rfl dL_law_541 rfl ?_
  refine lw_ld X0 (j := 2) hk hS1.2.1 (lv_at hlv 4 rfl) (lv_at hlv 0 rfl) (by decide) dL_law_542 rfl dL_law_543 rfl dL_law_545 rfl dL_law_546 rfl dL_law_547 rfl ?_
  refine gc_callV (E := E) (a := 167) (ci := 14) (as := [.inl (xs (5 * k + 1)), .inl (xs (5 * k + 2))]) (n := 2) (rest := [.int r]) (Φ := fun r2 σ2 => r2 = r ∧ ∃ K', pIn K' σ2) S htm hU.1 (y := 135) (u := mkX12_joined) rfl (hts _ (by decide +kernel)) (hts _ (by decide +kernel)) (hts _ (by decide +kernel)) (by decide) (by decide) rfl rfl (by decide) rfl rfl (by decide +kernel) (by decide) dL_law_548 hlv.1 (Nat.le_of_ble_eq_true rfl) hcR hsR (hw1.mono (fun rv σ2 q => ⟨r, q.1, rfl, q.2⟩)) hS1 (fun r2 σ2 H2 locs2 h2 hS2 hl2 => ?_)
  obtain ⟨rfl, K', hp'⟩ := h2
  refine lv_icmp_eq hx hb dL_law_551 (tgt := 618) rfl (fun _ => ?_) (fun h => absurd rfl h)
  exact back K' σ2 H2 locs2 cells slots ls hp' ⟨hS2, lo_C.k2 hv hl1 hl2, by omega, by omega, hlv⟩
set_option maxHeartbeats 4000000 in
set_option maxRecDepth 100000 in
theorem lw_c13 (X : lw_X p s m meth c b L xs E sa cA) {k cells slots : Nat} (hk : 5 * k + 5 ≤ L) {K : kS} {σ : mc_G} (hp : pIn K σ) {H : Heap} {locs : List Loc} {ls : Array Slot} (hI : lw_I E cA s b (5 * k) k σ H locs cells slots ls)
    (back : ∀ (K : kS) (σ : mc_G) (H : Heap) (locs : List Loc) (cells slots : Nat) (ls : Array Slot), pIn K σ → lw_I E cA s b (5 * k) (k + 1) σ H locs cells slots ls → W p l e room_1 s m #[Value.ref b] below meth c H locs cells slots Q (F0 m 618 ls [])) : W p l e room_1 s m #[Value.ref b] below meth c H locs cells slots Q (F0 m 556 ls []) := by
  have X0 := X
  obtain ⟨⟨hx, hb, hr, hml, hown, hts, hX, hbl, hlocks, hgv⟩, hU, hAr, hb0, hL⟩ := X
  obtain ⟨hS, hv, hce, hsl, hlv⟩ := hI
  have htm : ∀ w ∈ mc_ws, w.before #[Value.ref b] s = true := fun w hw => hts w (List.mem_filter.mp hw).1
  have S : CallFix p m c code 7 s #[Value.ref b] lw_tbl R_law := ⟨hx, hb, hml, hown, hts⟩
  have hcR : cells ≤ room_1.cells := (show cells ≤ 603072 by omega)
  have hsR : slots ≤ room_1.slots := (show slots ≤ 7211114 by have := lw_us; omega)
  refine lv_aload_n hx hb dL_law_556 rfl (lv_at hlv 3 rfl) ?_
  refine lw_ld X0 (j := 1) hk hS.2.1 (lv_at hlv 4 rfl) (lv_at hlv 0 rfl) (by decide) dL_law_557 rfl dL_law_558 rfl dL_law_560 rfl dL_law_561 rfl dL_law_562 rfl ?_
  refine lw_ld X0 (j := 2) hk hS.2.1 (lv_at hlv 4 rfl) (lv_at hlv 0 rfl) (by decide) dL_law_563 rfl dL_law_564 rfl dL_law_566 rfl dL_law_567 rfl dL_law_568 rfl ?_
  refine gc_callV (E := E) (a := 0) (ci := 13) (as := [.inl (xs (5 * k + 1)), .inl (xs (5 * k + 2))]) (n := 2) (rest := []) (Φ := fun r σ1 => Wp miX12_goes 0 [(0, .inr (some 167)), (1, .inl (xs (5 * k + 1))), (2, .inl (xs (5 * k + 2)))] [] σ1 (fun rv2 σ2 => rv2 = some (.inl r) ∧ ∃ K', pIn K' σ2)) S htm hU.1 (y := 116) (u := mkX11_goes) rfl (hts _ (by decide +kernel)) (hts _ (by decide +kernel)) (hts _ (by decide +kernel)) (by decide) (by decide) rfl rfl (by decide) rfl rfl (by decide +kernel) (by decide) dL_law_569 hlv.1 (by decide) hcR hsR (pa_goes hp (xs (5 * k + 1)) (xs (5 * k + 2))) hS (fun r σ1 H1 locs1 hw1 hS1 hl1 => ?_)
  refine lv_aload_n hx hb dL_law_572 rfl (lv_at hlv 2 rfl) ?_
  refine lw_ld X0 (j := 1) hk hS1.2.1 (lv_at hlv 4 rfl) (lv_at hlv 0 rfl) (by decide) dL_law_573 rfl dL_law_574 rfl dL_law_576 rfl dL_law_577 rfl dL_law_578 rfl ?_
  refine lw_ld X0 (j := 2) hk hS1.2.1 (lv_at hlv 4 rfl) (lv_at hlv 0 rfl) (by decide) dL_law_579 rfl dL_law_580 rfl dL_law_582 rfl dL_law_583 rfl dL_law_584 rfl ?_
  refine gc_callV (E := E) (a := 167) (ci := 14) (as := [.inl (xs (5 * k + 1)), .inl (xs (5 * k + 2))]) (n := 2) (rest := [.int r]) (Φ := fun r2 σ2 => r2 = r ∧ ∃ K', pIn K' σ2) S htm hU.1 (y := 136) (u := mkX12_goes) rfl (hts _ (by decide +kernel)) (hts _ (by decide +kernel)) (hts _ (by decide +kernel)) (by decide) (by decide) rfl rfl (by decide) rfl rfl (by decide +kernel) (by decide) dL_law_585 hlv.1 (Nat.le_of_ble_eq_true rfl) hcR hsR (hw1.mono (fun rv σ2 q => ⟨r, q.1, rfl, q.2⟩)) hS1 (fun r2 σ2 H2 locs2 h2 hS2 hl2 => ?_)
  obtain ⟨rfl, K', hp'⟩ := h2
  refine lv_icmp_eq hx hb dL_law_588 (tgt := 618) rfl (fun _ => ?_) (fun h => absurd rfl h)
  exact back K' σ2 H2 locs2 cells slots ls hp' ⟨hS2, lo_C.k2 hv hl1 hl2, by omega, by omega, hlv⟩
set_option maxHeartbeats 4000000 in
set_option maxRecDepth 100000 in
theorem lw_c14 (X : lw_X p s m meth c b L xs E sa cA) {k cells slots : Nat} (hk : 5 * k + 5 ≤ L) {K : kS} {σ : mc_G} (hp : pIn K σ) {H : Heap} {locs : List Loc} {ls : Array Slot} (hI : lw_I E cA s b (5 * k) k σ H locs cells slots ls)
    (back : ∀ (K : kS) (σ : mc_G) (H : Heap) (locs : List Loc) (cells slots : Nat) (ls : Array Slot), pIn K σ → lw_I E cA s b (5 * k) (k + 1) σ H locs cells slots ls → W p l e room_1 s m #[Value.ref b] below meth c H locs cells slots Q (F0 m 618 ls [])) : W p l e room_1 s m #[Value.ref b] below meth c H locs cells slots Q (F0 m 593 ls []) := by
  have X0 := X
  obtain ⟨⟨hx, hb, hr, hml, hown, hts, hX, hbl, hlocks, hgv⟩, hU, hAr, hb0, hL⟩ := X
  obtain ⟨hS, hv, hce, hsl, hlv⟩ := hI
  have htm : ∀ w ∈ mc_ws, w.before #[Value.ref b] s = true := fun w hw => hts w (List.mem_filter.mp hw).1
  have S : CallFix p m c code 7 s #[Value.ref b] lw_tbl R_law := ⟨hx, hb, hml, hown, hts⟩
  have hcR : cells ≤ room_1.cells := (show cells ≤ 603072 by omega)
  have hsR : slots ≤ room_1.slots := (show slots ≤ 7211114 by have := lw_us; omega)
  refine lv_aload_n hx hb dL_law_593 rfl (lv_at hlv 3 rfl) ?_
  refine lw_ld X0 (j := 1) hk hS.2.1 (lv_at hlv 4 rfl) (lv_at hlv 0 rfl) (by decide) dL_law_594 rfl dL_law_595 rfl dL_law_597 rfl dL_law_598 rfl dL_law_599 rfl ?_
  refine gc_callV (E := E) (a := 0) (ci := 13) (as := [.inl (xs (5 * k + 1))]) (n := 1) (rest := []) (Φ := fun r σ1 => Wp miX12_told 0 [(0, .inr (some 167)), (1, .inl (xs (5 * k + 1)))] [] σ1 (fun rv2 σ2 => rv2 = some (.inl r) ∧ ∃ K', pIn K' σ2)) S htm hU.1 (y := 117) (u := mkX11_told) rfl (hts _ (by decide +kernel)) (hts _ (by decide +kernel)) (hts _ (by decide +kernel)) (by decide) (by decide) rfl rfl (by decide) rfl rfl (by decide +kernel) (by decide) dL_law_600 hlv.1 (by decide) hcR hsR (pa_told hp (xs (5 * k + 1))) hS (fun r σ1 H1 locs1 hw1 hS1 hl1 => ?_)
  refine lv_aload_n hx hb dL_law_603 rfl (lv_at hlv 2 rfl) ?_
  refine lw_ld X0 (j := 1) hk hS1.2.1 (lv_at hlv 4 rfl) (lv_at hlv 0 rfl) (by decide) dL_law_604 rfl dL_law_605 rfl dL_law_607 rfl dL_law_608 rfl dL_law_609 rfl ?_
  refine gc_callV (E := E) (a := 167) (ci := 14) (as := [.inl (xs (5 * k + 1))]) (n := 1) (rest := [.int r]) (Φ := fun r2 σ2 => r2 = r ∧ ∃ K', pIn K' σ2) S htm hU.1 (y := 186) (u := mkX12_told) rfl (hts _ (by decide +kernel)) (hts _ (by decide +kernel)) (hts _ (by decide +kernel)) (by decide) (by decide) rfl rfl (by decide) rfl rfl (by decide +kernel) (by decide) dL_law_610 hlv.1 (Nat.le_of_ble_eq_true rfl) hcR hsR (hw1.mono (fun rv σ2 q => ⟨r, q.1, rfl, q.2⟩)) hS1 (fun r2 σ2 H2 locs2 h2 hS2 hl2 => ?_)
  obtain ⟨rfl, K', hp'⟩ := h2
  refine lv_icmp_eq hx hb dL_law_613 (tgt := 618) rfl (fun _ => ?_) (fun h => absurd rfl h)
  exact back K' σ2 H2 locs2 cells slots ls hp' ⟨hS2, lo_C.k2 hv hl1 hl2, by omega, by omega, hlv⟩
end LWL

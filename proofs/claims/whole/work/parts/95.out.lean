/-! the class's out: it returns, or it throws -/
theorem mc_S.gr {E : mc_H} {M : mc_M} {H H1 : Heap} (hS : mc_S E false M H) (oq : ∀ q : Nat, q < H.size → H1[q]? = H[q]?) : mc_S E false M H1 :=
  ⟨hS.1, fun b hb => (hS.2.1 b hb).kept (oq _ (hS.2.1 b hb).lt), fun h => (by cases h), hS.2.2.2⟩
section OUTC
variable {l : Launch} {p : Program} {e : Env} {s : State} {m : MethodId} {below : List Frame} {meth : Method} {c : Code} {Q : State → Prop} {args : Array Value} {R : Room} {cc : ByteArray} {own : String}
theorem gc_get {E : mc_H} (hx : p.tables.exec = Jvm.exec) (hb : c.code = cc) (hown : s.vm.findClass own = some m.cls) (htm : ∀ w ∈ mc_ws, w.before args s = true) (hU : mc_U E s) {a ci idx kf pc cells slots : Nat} {q : vw_C} {σ : mc_G} {rest : List Value} {H : Heap} {locs : List Loc} {ls : Array Slot}
    (h2 : 2 ≤ ci) (hq : vwCl[ci]? = some q) (ha : a < 187) (hta : (mc_ty a).1 = 3 + ci) (hkn : kf < q.2.2) (hn : kf < (mc_ty a).2) (hw : (Cond.fieldLink own idx (q.2.1 kf).1 (q.2.1 kf).2.1 (q.2.1 kf).2.2.1).before args s = true) (hd : decode cc pc = .ok (.getfield idx, 3)) (hS : mc_S E false (187, rh0, σ) H)
    (k : W p l e R s m args below meth c H locs cells slots Q (F0 m (pc + 3) ls ((if mc_isr ci kf = true then va_rf ((rh0 a kf).map (mc_adr E)) else .int (σ a kf)) :: rest))) : W p l e R s m args below meth c H locs cells slots Q (F0 m pc ls (.ref (mc_adr E a) :: rest)) := by
  obtain ⟨hcw, -, -⟩ := mc_cls h2 hq
  have hat := hS.2.1 a ha
  rw [mc_cell3 hta] at hat
  exact va_get hx hb htm hcw hown hU.1 (mc_one hat) 0 rfl hq kf hkn hw (fun _ h => h) (mc_fs_get hn) hd k
end OUTC
abbrev ox_nm : List String := ["java/lang/IndexOutOfBoundsException", "java/lang/RuntimeException", "java/lang/Exception"]
def ox_xt : List Cond := (vx_atS RX11 171 "java/lang/ArrayIndexOutOfBoundsException" ox_nm).filter (fun w => !goodWord w)
def ox_fc (w : Cond) : Bool := w.onTables && w.keepsFace
theorem ox_mv {args a' : Array Value} {s U : State} (hW : s.WarmedH U.vm) {w : Cond} (hf : ox_fc w = true) (h : w.before args s = true) : w.before a' U = true := by
  simp only [ox_fc, Bool.and_eq_true] at hf
  have h1 : w.before args (s.setVm U.vm) = true := Cond.before_shiftedFace (State.Shifted.of_warmed hW) _ hf.2 h
  exact va_tabs (u := s.setVm U.vm) hf.1 rfl h1
set_option maxRecDepth 100000 in
theorem ox_xf : ∀ w ∈ ox_xt, ox_fc w = true := by decide +kernel
def ox_U (E : mc_H) (sa : Nat) (U : State) : Prop := mc_U E U ∧ vx_Zq Bundle.tN "UNASSIGNED_STACK" Bundle.steD (mc_A E true) U U.heap ∧ vx_Zq Bundle.tN "SUPPRESSED_SENTINEL" Bundle.listD (mc_A E true) U U.heap ∧ vk_R RX11 169 "no such byte" sa U ∧ ∀ w ∈ ox_xt, w.before #[] U = true
def ox_ok (K : kS) (x : Int32) (r : Int32) : Prop := K.2.2.2.2.2.2.1 = true ∧ ∃ p : Nat, x = nI p ∧ p < K.2.2.2.2.2.1.1.1 ∧ r = nI (K.2.2.2.2.2.1.1.2 p)
def ox_F (E : mc_H) (σ : mc_G) (st t : State) : Prop := mc_S E false (187, rh0, σ) t.heap ∧ va_F (mc_A E true) st t ∧ t.heap[E.2.2.1 + 187]? = st.heap[E.2.2.1 + 187]?
def ox_P (E : mc_H) (sa : Nat) (σ : mc_G) (x : Int32) : Array Value → State → Prop := va_Pc [.ref (mc_adr E 0), .int x] (fun U => ox_U E sa U ∧ mc_S E false (187, rh0, σ) U.heap ∧ E.2.2.1 + 187 < U.heap.size)
def ox_Q (E : mc_H) (K : kS) (σ : mc_G) (x : Int32) : Array Value → State → Outcome → State → Prop := fun _ st oc t => ∃ r : Int32, ox_ok K x r ∧ oc = .returned (some (.int r)) ∧ ox_F E σ st t
def ox_X (E : mc_H) (K : kS) (σ : mc_G) (x : Int32) : String → State → State → Prop := fun nm st t => nm = "java/lang/ArrayIndexOutOfBoundsException" ∧ (∀ r, ¬ ox_ok K x r) ∧ ox_F E σ st t
abbrev ox_rm : Room := { frames := 9, cells := 1, slots := 6, locals := 400 }
set_option maxRecDepth 100000 in
theorem ox_at : ∀ w ∈ (vx_atS RX11 171 "java/lang/ArrayIndexOutOfBoundsException" ox_nm).filter goodWord, w ∈ mc_ws := by decide +kernel
set_option maxRecDepth 100000 in
theorem ox_gd : ∀ w ∈ Cond.classLink RX11 167 "java/lang/ArrayIndexOutOfBoundsException" :: Cond.initialized "java/lang/ArrayIndexOutOfBoundsException" :: vx_atS RX11 171 "java/lang/ArrayIndexOutOfBoundsException" ox_nm, vx_ot w = true := by decide +kernel
set_option maxHeartbeats 4000000 in
set_option maxRecDepth 100000 in
theorem ox_met (l : Launch) (hl : l.stackTraces = false) (E : mc_H) (sa : Nat) {K : kS} {σ : mc_G} (hK : cCls K σ) (x : Int32) : vx_Met l yX11_out (Cond.code yX11_out cX11_out 2 (some .int) :: mc_ws) ox_rm (ox_P E sa σ x) (ox_Q E K σ x) (ox_X E K σ x) 1 6 (mc_A E true) := by
  refine vx_ofW (cc := cX11_out) (maxL := 2) (ret := some .int) (by decide) rfl ?_
  intro p e s m args below meth c s₁ B hml ht hP
  obtain ⟨rfl, ⟨hU, hZ1, hZ2, hR, hX⟩, hS0, hlt⟩ := hP
  have hts := atoms_spec (ws := Cond.code yX11_out cX11_out 2 (some .int) :: mc_ws) B.pre
  have htm : ∀ w ∈ mc_ws, w.before _ s = true := fun w hw => hts w (List.mem_cons_of_mem _ hw)
  have hx := B.exec
  have hb := B.bytes
  have hret := B.returns
  have hlocks := B.notSynchronized
  have hown : s.vm.findClass RX11 = some m.cls := findClass_of_methodNamed B.named
  have hS : lw_S E s σ s.heap [] := ⟨hS0, va_S.rf, hlt⟩
  have hl0 := lv_entry [.ref (mc_adr E 0), .int x] (n := 2) (Nat.le_of_ble_eq_true rfl)
  rw [lg_entry_eq]
  generalize (lg_sl [.ref (mc_adr E 0), .int x] ++ List.replicate (2 - (lg_sl [.ref (mc_adr E 0), .int x]).length) Slot.unset).toArray = ls at hl0 ⊢
  have hlv : lv_has ls 2 [(0, .ref (mc_adr E 0)), (1, .int x)] := hl0
  have S : CallFix p m c cX11_out 2 s #[.ref (mc_adr E 0), .int x] (Cond.code yX11_out cX11_out 2 (some .int) :: mc_ws) RX11 := ⟨hx, hb, hml, hown, hts⟩
  -- the throw
  have thr : ∀ (H : Heap) (locs : List Loc), (∀ r, ¬ ox_ok K x r) → lw_S E s σ H locs → H[E.2.2.1 + 187]? = s.heap[E.2.2.1 + 187]? → W p l e ox_rm s m #[.ref (mc_adr E 0), .int x] below meth c H locs 0 0 (vx_MQ below (ox_Q E K σ x) (ox_X E K σ x) #[.ref (mc_adr E 0), .int x] s 1 6 (mc_A E true)) (F0 m 18 ls []) := by
    intro H locs hno h1 h2
    refine vx_throwS (A := mc_A E true) (own := RX11) (cls := "java/lang/ArrayIndexOutOfBoundsException") (names := ox_nm) (sa := sa) hx hb hl hown (by decide +kernel) (by decide +kernel) (htm _ (by decide +kernel)) (htm _ (by decide +kernel)) hR (vx_hat (fun w hw => htm w (ox_at w hw)) (fun _ h => h) (fun w hw => va_tabs (by have := ox_xf w hw; simp only [ox_fc, Bool.and_eq_true] at this; exact this.1) rfl (hX w hw))) ox_gd hZ1 hZ2 h1.2.1 (hlv.1.trans hml.symm) dX11_out_18 dX11_out_21 dX11_out_22 dX11_out_24 dX11_out_27 (fun x hx => (ht x hx).elim) (by decide) (by decide) (by decide) (by decide) hlocks (fun t _ hz oq => ⟨rfl, hno, h1.1.gr oq, ⟨Nat.le_trans h1.2.1.1 hz, fun q q1 q2 => by rw [oq q (Nat.lt_of_lt_of_le q1 h1.2.1.1)]; exact h1.2.1.2.1 q q1 q2⟩, by rw [oq _ h1.2.2]; exact h2⟩) h1.2.1.2.2 (by decide) (by decide)
  show W p l e ox_rm s m #[.ref (mc_adr E 0), .int x] below meth c s.heap [] 0 0 (vx_MQ below (ox_Q E K σ x) (ox_X E K σ x) #[.ref (mc_adr E 0), .int x] s 1 6 (mc_A E true)) (F0 m 0 ls [])
  refine lv_aload_n hx hb dX11_out_0 rfl (lv_at hlv 0 rfl) ?_
  refine gc_get (own := RX11) (ci := 13) (kf := 8) hx hb hown htm hU (by decide) rfl (by decide) rfl (by decide) (by decide) (htm _ (by decide +kernel)) dX11_out_1 hS0 ?_
  show W p l e ox_rm s m _ below meth c s.heap [] 0 0 _ (F0 m 4 ls [.int (σ 0 8)])
  rw [hK.2.2.2.2.2.2.2.2.1]
  refine lv_if_eq hx hb dX11_out_4 rfl (fun h1 => ?_) (fun h1 => ?_)
  · have hm : K.2.2.2.2.2.2.1 = false := by
      cases e : K.2.2.2.2.2.2.1
      · rfl
      · rw [e] at h1; exact absurd h1 (by decide)
    exact thr s.heap [] (fun r q => by exact absurd (hm.symm.trans q.1) (by decide)) hS rfl
  · have hm : K.2.2.2.2.2.2.1 = true := by
      cases e : K.2.2.2.2.2.2.1
      · rw [e] at h1; exact absurd rfl h1
      · rfl
    refine lv_aload_n hx hb dX11_out_7 rfl (lv_at hlv 0 rfl) ?_
    refine gc_get (own := RX11) (ci := 13) (kf := 6) hx hb hown htm hU (by decide) rfl (by decide) rfl (by decide) (by decide) (htm _ (by decide +kernel)) dX11_out_8 hS0 ?_
    show W p l e ox_rm s m _ below meth c s.heap [] 0 0 _ (F0 m 11 ls [.ref (mc_adr E 154)])
    refine lv_iload_n hx hb dX11_out_11 rfl (lv_at hlv 1 rfl) ?_
    have hWr := hK.2.2.2.2.2.2.1.1
    have hhas : Wp miX10_has 0 (mc_lo 0 [.inr (some 154), .inl x]) [] σ (fun rv σ' => ∃ r : Int32, rv = some (.inl r) ∧ ((r = bI true ∧ ∃ p : Nat, x = nI p ∧ p < 2 ^ 31 ∧ p < K.2.2.2.2.2.1.1.1) ∨ (r = bI false ∧ ∀ r, ¬ ox_ok K x r)) ∧ σ' = σ) := by
      rcases ix x with h | ⟨k, h2, h3⟩
      · exact (sX10_has_n h).mono (fun rv σ' q => ⟨_, q.1, Or.inr ⟨rfl, fun r w => by obtain ⟨-, p, w1, w2, -⟩ := w; exact neg_nI h (n := p) (by have := hWr.2.1; omega) w1⟩, q.2⟩)
      · refine (sX10_has hWr h2 h3).mono (fun rv σ' q => ⟨_, q.1, ?_, q.2⟩)
        by_cases hlt : k < K.2.2.2.2.2.1.1.1
        · exact Or.inl ⟨by rw [decide_eq_true hlt], k, h2, h3, hlt⟩
        · refine Or.inr ⟨by rw [decide_eq_false hlt], fun r w => ?_⟩
          obtain ⟨-, p, w1, w2, -⟩ := w
          have := nI_ij h3 (by have := hWr.2.1; omega) (h2.symm.trans w1)
          omega
    refine gc_callV (E := E) (a := 154) (ci := 12) (as := [.inl x]) (n := 1) (rest := []) S htm hU (y := 96) (u := mkX10_has) rfl (htm _ (by decide +kernel)) (htm _ (by decide +kernel)) (htm _ (by decide +kernel)) (by decide) (by decide) rfl rfl (by decide) rfl rfl (by decide +kernel) (by decide) dX11_out_12 hlv.1 (by decide) (by decide) (by decide) hhas hS (fun r σ' H locs hr h1S hlong => ?_)
    obtain ⟨hr, rfl⟩ := hr
    refine lv_if_ne hx hb dX11_out_15 rfl (fun h2 => ?_) (fun h2 => ?_)
    · rcases hr with ⟨-, k9, hp1, hp2, hp3⟩ | ⟨hr, -⟩
      · refine lv_aload_n hx hb dX11_out_28 rfl (lv_at hlv 0 rfl) ?_
        refine gc_get (own := RX11) (ci := 13) (kf := 6) hx hb hown htm hU (by decide) rfl (by decide) rfl (by decide) (by decide) (htm _ (by decide +kernel)) dX11_out_29 h1S.1 ?_
        show W p l e ox_rm s m _ below meth c H locs 0 0 _ (F0 m 32 ls [.ref (mc_adr E 154)])
        refine lv_iload_n hx hb dX11_out_32 rfl (lv_at hlv 1 rfl) ?_
        refine gc_callV (E := E) (a := 154) (ci := 12) (as := [.inl x]) (n := 1) (rest := []) (Φ := fun r2 σ2 => r2 = nI (K.2.2.2.2.2.1.1.2 k9) ∧ σ2 = σ') S htm hU (y := 97) (u := mkX10_byteAt) rfl (htm _ (by decide +kernel)) (htm _ (by decide +kernel)) (htm _ (by decide +kernel)) (by decide) (by decide) rfl rfl (by decide) rfl rfl (by decide +kernel) (by decide) dX11_out_33 hlv.1 (by decide) (by decide) (by decide) ((sX10_byteAt hWr hp1 hp2 hp3).mono (fun rv σ2 q => ⟨_, q.1, rfl, q.2⟩)) h1S (fun r2 σ2 H2 locs2 hr2 h2S hlong2 => ?_)
        obtain ⟨rfl, rfl⟩ := hr2
        refine W.widen (k := 1) (n := 6) (by omega) (by omega) ?_
        exact vx_ret (W.iret hx hb hret (fun t hH hW => ⟨_, ⟨hm, k9, hp1, hp3, rfl⟩, rfl, by rw [hH]; exact h2S.1, ⟨by rw [hH]; exact h2S.2.1.1, fun q q1 q2 => by rw [hH]; exact h2S.2.1.2.1 q q1 q2⟩, by rw [hH, hlong2, hlong]⟩) h2S.2.1.2.2 dX11_out_36 hlocks)
      · exact absurd hr (fun q => h2 (by rw [q]; rfl))
    · rcases hr with ⟨hr, -⟩ | ⟨-, hno⟩
      · rw [hr] at h2; exact absurd h2 (by decide)
      · exact thr H locs hno h1S hlong

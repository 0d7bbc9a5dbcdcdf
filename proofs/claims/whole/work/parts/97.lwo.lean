/-! the law's out: it lays the byte and returns 0, or it returns 1 -/
theorem ox_U.to {E : mc_H} {sa : Nat} {s U : State} (h : ox_U E sa s) (hW : s.WarmedH U.vm) (hz : s.heap.size ≤ U.heap.size) (hq : ∀ q : Nat, q < s.heap.size → ¬ mc_A E true q → U.heap[q]? = s.heap[q]?) : ox_U E sa U :=
  ⟨h.1.to hW.alike hz hq, (h.2.1.moved hW.alike).kept hq, (h.2.2.1.moved hW.alike).kept hq, h.2.2.2.1.warm hW, fun w hw => ox_mv hW (ox_xf w hw) (h.2.2.2.2 w hw)⟩
theorem ox_blind (E : mc_H) (sa : Nat) (σ : mc_G) (x : Int32) : FrameBlind (ox_P E sa σ x) := by
  intro a U g mk h
  obtain ⟨h1, h2, h3, h4⟩ := h
  exact ⟨h1, ox_U.to (U := U.calling g mk a) h2 (State.WarmedH.refl U) (Nat.le_refl _) (fun _ _ _ => rfl), h3, h4⟩
theorem mc_S.sd {E : mc_H} {σ : mc_G} {H H1 : Heap} (hS : mc_S E false (187, rh0, σ) H) (oq : ∀ q, q ≠ E.2.2.1 + 187 → H1[q]? = H[q]?) : mc_S E false (187, rh0, σ) H1 := by
  refine ⟨hS.1, fun b hb => (hS.2.1 b hb).kept (oq _ ?_), fun h => (by cases h), hS.2.2.2⟩
  have h' : b < 187 := hb
  show mc_adr E b ≠ _
  unfold mc_adr
  rw [if_pos (by omega)]; omega
theorem lo_sig {d : String} {n : Nat} (h : (parseMethodDescriptor d).map (fun d' => d'.parameters.length) = some n) : ∀ sig, parseMethodDescriptor d = some sig → n = sig.parameters.length := fun sig hs => by
  rw [hs] at h
  exact (Option.some.inj h).symm
def lo_C (E : mc_H) (cA : ClassId) (v : Int64) (H : Heap) : Prop := ∃ f : Nat → Value, H[E.2.2.1 + 187]? = some (arrV cA 1 f) ∧ f 0 = .long v
def lo_P (E : mc_H) (sa : Nat) (σ : mc_G) (x : Int32) (cA : ClassId) : Array Value → State → Prop := va_Pc [.ref (mc_adr E 0), .int x, .ref (E.2.2.1 + 187)] (fun U => ox_U E sa U ∧ mc_S E false (187, rh0, σ) U.heap ∧ ArrOfT U cA .long ∧ ∃ v, lo_C E cA v U.heap)
def lo_R (E : mc_H) (K : kS) (x : Int32) (cA : ClassId) (k : Int32) (H : Heap) : Prop := (k = 0 ∧ ∃ r, ox_ok K x r ∧ lo_C E cA r.toInt64 H) ∨ (k = 1 ∧ (∀ r, ¬ ox_ok K x r) ∧ ∃ v, lo_C E cA v H)
def lo_Q (E : mc_H) (K : kS) (σ : mc_G) (x : Int32) (cA : ClassId) : Array Value → State → Outcome → State → Prop := fun _ st oc t => ∃ k, lo_R E K x cA k t.heap ∧ oc = .returned (some (.int k)) ∧ mc_S E false (187, rh0, σ) t.heap ∧ va_F (mc_A E true) st t
theorem lo_blind (E : mc_H) (sa : Nat) (σ : mc_G) (x : Int32) (cA : ClassId) : FrameBlind (lo_P E sa σ x cA) := by
  intro a U g mk h
  obtain ⟨h1, h2, h3, h4, h5⟩ := h
  exact ⟨h1, ox_U.to (U := U.calling g mk a) h2 (State.WarmedH.refl U) (Nat.le_refl _) (fun _ _ _ => rfl), h3, arrOfT_moved (E := U.calling g mk a) (Vm.Alike.refl U.vm) h4, h5⟩
abbrev lo_rm : Room := { frames := 10, cells := 1, slots := 6, locals := 440 }
set_option maxRecDepth 100000 in
theorem lo_cst : Cond.castable "java/lang/ArrayIndexOutOfBoundsException" "java/lang/ArrayIndexOutOfBoundsException" ∈ ox_xt := by decide +kernel
set_option maxHeartbeats 4000000 in
set_option maxRecDepth 100000 in
theorem lo_met (l : Launch) (hl : l.stackTraces = false) (E : mc_H) (sa : Nat) {K : kS} {σ : mc_G} (hK : cCls K σ) (x : Int32) (cA : ClassId) : vx_Met l yL_out (Cond.codeWith yL_out cL_out 4 (some .int) [(0, 9, 12, 13)] :: mc_ws) lo_rm (lo_P E sa σ x cA) (lo_Q E K σ x cA) (fun _ _ _ => False) 1 6 (mc_A E true) := by
  refine vx_ofWH (cc := cL_out) (maxL := 4) (ret := some .int) (hh := [(0, 9, 12, 13)]) (by decide) rfl ?_
  intro p e s m args below meth c s₁ B hml hP
  obtain ⟨rfl, hU, hS0, hAr, v0, f0, hc0, hf0⟩ := hP
  have hts := atoms_spec (ws := Cond.codeWith yL_out cL_out 4 (some .int) [(0, 9, 12, 13)] :: mc_ws) B.pre
  have htm : ∀ w ∈ mc_ws, w.before _ s = true := fun w hw => hts w (List.mem_cons_of_mem _ hw)
  have htab := vx_table (x := yL_out) (hh := [(0, 9, 12, 13)]) B (hts _ List.mem_cons_self)
  have hx := B.exec
  have hb := B.bytes
  have hret := B.returns
  have hlocks := B.notSynchronized
  have hown : s.vm.findClass RL = some m.cls := findClass_of_methodNamed B.named
  have hlt : E.2.2.1 + 187 < s.heap.size := (Array.getElem?_eq_some_iff.mp hc0).1
  have hl0 := lv_entry [.ref (mc_adr E 0), .int x, .ref (E.2.2.1 + 187)] (n := 4) (Nat.le_of_ble_eq_true rfl)
  rw [lg_entry_eq]
  generalize (lg_sl [.ref (mc_adr E 0), .int x, .ref (E.2.2.1 + 187)] ++ List.replicate (4 - (lg_sl [.ref (mc_adr E 0), .int x, .ref (E.2.2.1 + 187)]).length) Slot.unset).toArray = ls at hl0 ⊢
  have hlv : lv_has ls 4 [(0, .ref (mc_adr E 0)), (1, .int x), (2, .ref (E.2.2.1 + 187))] := hl0
  have S : CallFix p m c cL_out 4 s #[.ref (mc_adr E 0), .int x, .ref (E.2.2.1 + 187)] (Cond.codeWith yL_out cL_out 4 (some .int) [(0, 9, 12, 13)] :: mc_ws) RL := ⟨hx, hb, hml, hown, hts⟩
  show W p l e lo_rm s m #[.ref (mc_adr E 0), .int x, .ref (E.2.2.1 + 187)] below meth c s.heap [] 0 0 (vx_MQ below (lo_Q E K σ x cA) (fun _ _ _ => False) #[.ref (mc_adr E 0), .int x, .ref (E.2.2.1 + 187)] s 1 6 (mc_A E true)) (F0 m 0 ls [])
  refine lv_aload_n hx hb dL_out_0 rfl (lv_at hlv 2 rfl) ?_
  refine lv_iconst hx hb dL_out_1 rfl ?_
  refine lv_aload_n hx hb dL_out_2 rfl (lv_at hlv 0 rfl) ?_
  refine lv_iload_n hx hb dL_out_3 rfl (lv_at hlv 1 rfl) ?_
  have hat := hS0.2.1 0 (show 0 < 187 by decide)
  rw [mc_cell3 (k := 13) rfl] at hat
  have hrv := va_recv hU.1.1 (mc_one hat) (ci := 13) rfl (q0 := 0) rfl
  have hrun := vx_runV (C := RX11) (As := [.int x]) (b := mc_adr E 0) (n := 1) (R := lo_rm) (index := 7) (H := s.heap) (g := F0 m 4 ls [.int x, .ref (mc_adr E 0), .int 0, .ref (E.2.2.1 + 187)]) (rest := [.int 0, .ref (E.2.2.1 + 187)]) (cells := 0) (slots := 0) (locs := []) (below := below) (e := e) (meth := meth) S (ox_met l hl E sa hK x)
    ⟨⟨rfl, rfl, by decide, by decide, (fun w hw => by
        rcases List.mem_cons.mp hw with rfl | h
        · exact mc_pay htm _ (by decide +kernel)
        · exact mc_pay htm w h), List.mem_cons_self, htm _ (by decide +kernel), htm _ (by decide +kernel), ⟨by decide, by decide⟩, lo_sig (by decide +kernel), htm _ (by decide +kernel)⟩, htm _ (by decide +kernel), htm _ (by decide +kernel)⟩
    ⟨ox_blind E sa σ x, hrv, fun U hH hW => ⟨rfl, hU.to hW (by rw [hH]; exact Nat.le_refl _) (fun q _ _ => by rw [hH]), by rw [hH]; exact hS0, by rw [hH]; exact hlt⟩⟩ rfl rfl hlv.1 rfl (lv_room (Nat.le_of_ble_eq_true rfl)) dL_out_4 ⟨by decide, by decide⟩
  intro T hT X
  rcases hrun T hT X with ⟨v, st₀, t, T', L, h00, X', hL, e1, e2, ⟨r, hok, hv, hF1, hF2, hF3⟩, st⟩ | ⟨q, st₀, t, T', L, Ex, ce, h00, X', hL, e1, e2, ⟨rfl, hno, hF1, hF2, hF3⟩, hce, hcv, hcl, st⟩
  · have hv' : v = some (Value.int r) := Outcome.returned.inj hv
    subst hv'
    have K1 : W p l e lo_rm s m #[.ref (mc_adr E 0), .int x, .ref (E.2.2.1 + 187)] below meth c T'.heap ([] ++ L) (0 + 1) (0 + 6) (vx_MQ below (lo_Q E K σ x cA) (fun _ _ _ => False) #[.ref (mc_adr E 0), .int x, .ref (E.2.2.1 + 187)] s 1 6 (mc_A E true)) (F0 m 7 ls [.int r, .int 0, .ref (E.2.2.1 + 187)]) := by
      refine lv_i2l hx hb dL_out_7 rfl ?_
      refine W.last hx hb (cell := arrV cA 1 f0) (j := 0) (by rw [e1, hF3, h00]; exact hc0) (hAr 1 f0) (fun q => by cases q) (by show ¬ (_ ∨ (arrV _ _ _).slots.size ≤ _); rw [arrV_size]; decide) rfl rfl dL_out_8 (fun H1 he hz oq => ?_)
      refine lv_goto hx hb dL_out_9 rfl ?_
      refine lv_iconst hx hb dL_out_15 rfl ?_
      have hSt : mc_S E false (187, rh0, σ) T'.heap := by rw [e1]; exact hF1
      refine vx_ret (W.iret hx hb hret ?_ ?_ dL_out_16 hlocks)
      · intro t2 hH hW
        refine ⟨_, Or.inl ⟨rfl, r, hok, updV f0 0 (.long r.toInt64), ?_, rfl⟩, rfl, ?_, ?_⟩
        · rw [hH, he, arrV_store]; rfl
        · rw [hH]
          exact hSt.sd oq
        · refine ⟨?_, fun q q1 q2 => ?_⟩
          · rw [hH, hz, e1, ← h00]; exact hF2.1
          · rw [hH, oq q (fun h => q2 (by rw [h]; exact ⟨Nat.le_add_right _ _, Or.inl rfl⟩)), e1, hF2.2 q (by rw [h00]; exact q1) q2, h00]
      · intro q hq
        rcases List.mem_append.mp hq with h | h
        · exact hL q h
        · rw [List.mem_singleton.mp h]; exact ⟨Nat.le_add_right _ _, Or.inl rfl⟩
    obtain ⟨t2, a1, b1⟩ := K1 T' rfl X'
    exact ⟨t2, st t2 a1, b1⟩
  · have K1 : vx_W p l e lo_rm s m #[.ref (mc_adr E 0), .int x, .ref (E.2.2.1 + 187)] below meth c T'.heap ([] ++ L) (0 + 1) (0 + 6) (vx_MQ below (lo_Q E K σ x cA) (fun _ _ _ => False) #[.ref (mc_adr E 0), .int x, .ref (E.2.2.1 + 187)] s 1 6 (mc_A E true)) (F0 m 4 ls [.int 0, .ref (E.2.2.1 + 187)]) q := by
      refine vx_catch hown [] ⟨0, 9, 12, 13⟩ [] htab (fun z hz => nomatch hz) (by decide) (by decide) (name := "java/lang/ArrayIndexOutOfBoundsException") (htm _ (by decide +kernel)) (va_tabs rfl rfl (hU.2.2.2.2 _ lo_cst)) (by rw [e1]; exact hce) hcv hcl ?_
      refine lv_astore_n hx hb dL_out_12 rfl hlv (by decide) rfl (fun ls' hlv' => ?_)
      refine lv_iconst hx hb dL_out_13 rfl ?_
      refine vx_ret (W.iret hx hb hret ?_ (fun q hq => hL q hq) dL_out_14 hlocks)
      intro t2 hH hW
      refine ⟨_, Or.inr ⟨rfl, hno, v0, f0, ?_, hf0⟩, rfl, ?_, ?_⟩
      · rw [hH, e1, hF3, h00]; exact hc0
      · rw [hH, e1]; exact hF1
      · refine ⟨?_, fun q q1 q2 => ?_⟩
        · rw [hH, e1, ← h00]; exact hF2.1
        · rw [hH, e1, hF2.2 q (by rw [h00]; exact q1) q2, h00]
    obtain ⟨t2, a1, b1⟩ := K1 T' rfl X'
    exact ⟨t2, st.trans a1, b1⟩

/-! calls of the small machine's methods from elsewhere -/
def lw_S (E : mc_H) (s : State) (σ : mc_G) (H : Heap) (locs : List Loc) : Prop := mc_S E false (187, rh0, σ) H ∧ va_S (mc_A E true) s.heap H locs ∧ E.2.2.1 + 187 < H.size
section LAWC
variable {l : Launch} {p : Program} {e : Env} {s : State} {m : MethodId} {below : List Frame} {meth : Method} {c : Code} {Q : State → Prop} {args : Array Value} {R : Room} {cc : ByteArray} {nL : Nat} {Ts : List Cond} {own : String}
set_option maxHeartbeats 4000000 in
theorem gc_callV {E : mc_H} (S : CallFix p m c cc nL s args Ts own) (htm : ∀ w ∈ mc_ws, w.before args s = true) (hU : mc_U E s) {y idx a ci pc cells slots : Nat} {u : mc_T} {q : vw_C} {σ : mc_G} {Φ : Int32 → mc_G → Prop} {as : List mc_V} {rest : List Value} {H : Heap} {locs : List Loc} {ls : Array Slot}
    (hu : mc_tab[y]? = some u) (hw1 : (Cond.methodLink own idx u.1).before args s = true) (hw2 : (Cond.instanceMethod u.1).before args s = true) (hw3 : (Cond.selects u.1.cls u.1 u.1).before args s = true) (hf : mc_num u 0 + 1 ≤ R.frames) (hlo : 8 + (u.2.2.1 + 11) + mc_num u 1 ≤ R.locals) (hq : vwCl[ci]? = some q) (hqc : q.1 = u.1.cls) (ha : a < 187) (hta : (mc_ty a).1 = 3 + ci)
    {n : Nat} (hn : as.length = n) (hsig : (parseMethodDescriptor u.1.desc).map (fun d' => d'.parameters.length + 1) = some (n + 1)) (hna : n + 1 ≤ u.2.2.1) (hd : decode cc pc = .ok (.invokevirtual idx, 3)) (hls : ls.size = nL) (hr8 : (rest.map fun v => v.category).sum ≤ 8) (hce : cells ≤ R.cells) (hsl : slots ≤ R.slots)
    (hw : Wp u.2.2.2.2.2 0 (mc_lo 0 (.inr (some a) :: as)) [] σ (fun rv σ' => ∃ r : Int32, rv = some (.inl r) ∧ Φ r σ')) (hS : lw_S E s σ H locs)
    (k : ∀ (r : Int32) (σ' : mc_G) (H' : Heap) (locs' : List Loc), Φ r σ' → lw_S E s σ' H' locs' → H'[E.2.2.1 + 187]? = H[E.2.2.1 + 187]? → W p l e R s m args below meth c H' locs' cells slots Q (F0 m (pc + 3) ls (.int r :: rest))) :
    W p l e R s m args below meth c H locs cells slots Q (F0 m pc ls ((as.map (mc_tv E)).reverse ++ .ref (mc_adr E a) :: rest)) := by
  subst hn
  obtain ⟨hS1, hV, hlt⟩ := hS
  have hcd : mc_code y = u.2.2.2.2.2 := by unfold mc_code; rw [hu]
  obtain ⟨rv, σ', hE, r, rfl, hΦ⟩ := hw y hcd
  have hM := mc_met l E false hu (by rw [List.length_cons]; exact hna) hE
  simp only [Nat.sub_self] at hM
  have ho := (ck_all u (List.mem_of_getElem? hu)).2
  obtain ⟨hoc, hoi, hoh⟩ := mc_own_of ho
  have hat := hS1.2.1 a ha
  rw [mc_cell3 hta] at hat
  have hrv := va_recv hU.1 (mc_one hat) hq (q0 := 0) rfl
  rw [hqc] at hrv
  have hpre : PreS s H (mc_Pc E false (.inr (some a) :: as) (187, rh0, σ)) ((.inr (some a) :: as : List mc_V).map (mc_tv E)) :=
    ⟨mc_blind E false _ _, fun U hH hW => ⟨rfl, hU.to hW.alike (by rw [hH]; exact hV.1) (fun q h1 h2 => by rw [hH]; exact hV.2.1 q h1 h2), by rw [hH]; exact hS1⟩⟩
  have hrun := va_runV (C := u.1.cls) (As := as.map (mc_tv E)) (b := mc_adr E a) (n := as.length) (R := R) (index := idx) (g := F0 m pc ls ((as.map (mc_tv E)).reverse ++ .ref (mc_adr E a) :: rest)) (rest := rest) (cells := cells) (slots := slots) (locs := locs) (below := below) (e := e) (meth := meth) S hM
    ⟨⟨Nat.sub_self _, Nat.sub_self _, hf, hlo, mc_pays htm ho, List.mem_cons_self, htm _ hoc, htm _ hoi, hoh, mc_sig_of hsig rfl, hw1⟩, hw2, hw3⟩ ⟨mc_blind E false _ _, hrv, hpre.2⟩ rfl (by simp) hls rfl (lv_room hr8) hd ⟨hce, hsl⟩
  intro T hT X
  obtain ⟨v, st₀, tt, T', L', h00, X', hL', e1, e2, hq2, st⟩ := hrun T hT X
  obtain ⟨hv, hU1, hS2, hz, hk⟩ := hq2
  rw [h00] at hz hk
  have hv' : v = some (Value.int r) := Outcome.returned.inj hv
  have hVn : va_S (mc_A E true) s.heap T'.heap (locs ++ L') := ⟨Nat.le_trans hV.1 (by rw [e1]; exact hz), fun q h1 h2 => by rw [e1, hk q (Nat.lt_of_lt_of_le h1 hV.1) (fun h => h2 (mc_A_w h))]; exact hV.2.1 q h1 h2, fun q hq => by
      rcases List.mem_append.mp hq with h | h
      · exact hV.2.2 q h
      · exact mc_A_w (hL' q h)⟩
  have hlong : T'.heap[E.2.2.1 + 187]? = H[E.2.2.1 + 187]? := by
    rw [e1]
    exact hk _ hlt (fun h => by rcases h.2 with q | q; cases q; omega)
  obtain ⟨t2, a1, b1⟩ := k r σ' T'.heap (locs ++ L') hΦ ⟨by rw [e1]; exact hS2, hVn, by rw [e1]; exact Nat.lt_of_lt_of_le hlt hz⟩ hlong T' rfl X'
  refine ⟨t2, st t2 ?_, b1⟩
  rw [hv']
  exact a1
end LAWC

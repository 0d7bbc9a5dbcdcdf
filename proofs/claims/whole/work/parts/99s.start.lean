/-! the law's start -/
theorem arrV_cg (cI : ClassId) (n : Nat) {f g : Nat → Value} (h : ∀ j, j < n → f j = g j) : arrV cI n f = arrV cI n g := by
  have e : (fun j : Fin n => f j.val) = (fun j : Fin n => g j.val) := funext fun j => h _ j.isLt
  unfold arrV
  rw [e]
theorem mc_fs_cg {E : mc_H} {k n : Nat} {f f' : Nat → Option Nat} {g g' : Nat → Int32} (h : ∀ j, j < n → f' j = f j ∧ g' j = g j) : mc_fs E k n f' g' = mc_fs E k n f g := by
  unfold mc_fs
  apply List.map_congr_left
  intro j hj
  rw [(h j (List.mem_range.mp hj)).1, (h j (List.mem_range.mp hj)).2]
theorem mc_at_cg {E : mc_H} {ρ ρ' : Nat → Nat → Option Nat} {σ σ' : Nat → Nat → Int32} {a q : Nat} {H : Heap} (h : ∀ j, j < (mc_ty a).2 → ρ' a j = ρ a j ∧ σ' a j = σ a j) (hat : va_at E.1 vwCl (q, mc_cell E ρ σ a) H) : va_at E.1 vwCl (q, mc_cell E ρ' σ' a) H := by
  rcases (show (mc_ty a).1 = 0 ∨ (mc_ty a).1 = 1 ∨ (mc_ty a).1 = 2 ∨ ∃ k, (mc_ty a).1 = 3 + k from by
    by_cases h3 : 3 ≤ (mc_ty a).1
    · exact Or.inr (Or.inr (Or.inr ⟨(mc_ty a).1 - 3, by omega⟩))
    · omega) with h0 | h0 | h0 | ⟨k, h0⟩
  · rw [mc_cell0 h0] at hat ⊢
    have e : vp_cell E.2.1.1 ((mc_ty a).2, .inl (σ' a)) = vp_cell E.2.1.1 ((mc_ty a).2, .inl (σ a)) := by
      rw [vp_cell_i, vp_cell_i]
      exact arrV_cg _ _ (fun j hj => congrArg Value.int (h j hj).2)
    show H[q]? = some (vp_cell _ _)
    rw [e]; exact hat
  · rw [mc_cell1 h0] at hat ⊢
    have e : vp_cell E.2.1.2.1 ((mc_ty a).2, .inl (σ' a)) = vp_cell E.2.1.2.1 ((mc_ty a).2, .inl (σ a)) := by
      rw [vp_cell_i, vp_cell_i]
      exact arrV_cg _ _ (fun j hj => congrArg Value.int (h j hj).2)
    show H[q]? = some (vp_cell _ _)
    rw [e]; exact hat
  · rw [mc_cell2 h0] at hat ⊢
    have e : vp_cell E.2.1.2.2 ((mc_ty a).2, .inr (.inr (.inr (.inr (fun i => (ρ' a i).map (mc_adr E)))))) = vp_cell E.2.1.2.2 ((mc_ty a).2, .inr (.inr (.inr (.inr (fun i => (ρ a i).map (mc_adr E)))))) := by
      show arrV E.2.1.2.2 (mc_ty a).2 (fun j => va_rf ((ρ' a j).map (mc_adr E))) = arrV E.2.1.2.2 (mc_ty a).2 (fun j => va_rf ((ρ a j).map (mc_adr E)))
      exact arrV_cg _ _ (fun j hj => congrArg (fun v : Option Nat => va_rf (v.map (mc_adr E))) (h j hj).1)
    show H[q]? = some (vp_cell _ _)
    rw [e]; exact hat
  · rw [mc_cell3 h0] at hat ⊢
    rw [mc_fs_cg (fun j hj => h j hj)]
    exact hat
/-! what they hold when they are made -/
theorem sgz {a k : Nat} (h1 : a ≠ 1000) (h2 : a ≠ 1001) (h3 : a ≠ 1) (h4 : a ≠ 167) : sg0 a k = 0 := by
  unfold sg0
  rw [if_neg h1, if_neg h2, if_neg (fun q => h3 q.1), if_neg (fun q => h4 q.1)]
theorem sgn {a k : Nat} (h1 : 1 < a) (h2 : a < 167) : sg0 a k = nI 0 := by rw [sgz (by omega) (by omega) (by omega) (by omega)]; exact nI_0.symm
theorem sgm {a k : Nat} (h1 : 167 < a) (h2 : a < 187) : sg0 a k = nI 0 := by rw [sgz (by omega) (by omega) (by omega) (by omega)]; exact nI_0.symm
def tT0 : tT := (1, fun _ => 0, fun _ => false)
def pT0 : pT := (0, fun _ => 0, fun _ => 0, 0, fun _ => 0, fun _ => 0, fun _ => 0, fun _ => 0)
def cS0 : cS := (0, fun _ => 0)
def kS0 : kS := (tT0, pT0, cS0, (fun _ => cS0, fun _ => false, fun _ => false, false, cS0), (fun _ => 0, fun _ => 0, fun _ => false, fun _ => cS0, 0), ((0, fun _ => 0), (0, fun _ => 0), (0, fun _ => 0), (0, fun _ => 0)), false, 0)
theorem cCel0 {a : Nat} (h1 : 1 < a) (h2 : a < 166) : cCel a cS0 sg0 := ⟨sgn h1 (by omega), (show 0 ≤ 6 by decide), fun j _ => ⟨sgn (by omega) (by omega), (show 0 < 300 by decide)⟩⟩
theorem cEnt0 {a : Nat} (h1 : 1 < a) (h2 : a < 166) : cEnt a (0, fun _ => 0) sg0 := ⟨sgn h1 (by omega), (show 0 ≤ 8 by decide), fun j _ => ⟨sgn (by omega) (by omega), (show 0 < 300 by decide)⟩⟩
theorem nI_b0 : nI 0 = bI false := by decide
theorem sta0 : ∀ o, o < 21 → sg0 1000 o = nI (tkA o) ∧ sg0 1001 o = nI (gvA o) := by decide +kernel
theorem cCls0 : cCls kS0 sg0 := by
  refine ⟨⟨rfl, fun t _ => ?_, fun i j hi hj => ?_⟩, ⟨sgn (by decide) (by decide), sgn (by decide) (by decide), fun k h => absurd h (Nat.not_lt_zero _), fun k h => absurd h (Nat.not_lt_zero _)⟩, cCel0 (by decide) (by decide), ⟨(fun _ => 0, fun _ => false, false), fun i hi => ⟨sgn (by decide) (by decide), (show 0 < 128 by decide), (sgn (by decide) (by decide)).trans nI_b0⟩, (sgn (by decide) (by decide)).trans nI_b0⟩, ?_, ?_, ?_, ?_, ?_, ?_, sta0⟩
  · exact (sgn (by decide) (by decide)).trans nI_b0
  · have hi' : i < 1 := hi
    have hj' : j < 1 := hj
    rw [show i = 0 by omega, show j = 0 by omega]
    rfl
  · exact ⟨fun i hi => ⟨cCel0 (by omega) (by omega), (sgn (by decide) (by decide)).trans nI_b0, (sgn (by decide) (by decide)).trans nI_b0⟩, (sgn (by decide) (by decide)).trans nI_b0, cCel0 (by decide) (by decide)⟩
  · exact ⟨fun i hi => ⟨sgn (by decide) (by decide), (sgn (by decide) (by decide)).trans nI_0, (sgn (by decide) (by decide)).trans nI_b0, cCel0 (by omega) (by omega)⟩, sgn (by decide) (by decide), (show 0 ≤ 30 by decide)⟩
  · exact ⟨⟨sgn (by decide) (by decide), (show 0 ≤ 960 by decide), fun j _ => sgn (by decide) (by decide)⟩, cEnt0 (by decide) (by decide), cEnt0 (by decide) (by decide), cEnt0 (by decide) (by decide)⟩
  · exact ⟨(cS0, false), cCel0 (by decide) (by decide), ⟨cS0, cCel0 (by decide) (by decide)⟩, (sgn (by decide) (by decide)).trans nI_b0⟩
  · rfl
  · rfl
theorem cMod0 : cMod kS0 sg0 := by
  refine ⟨⟨rfl, fun t _ => ⟨sgm (by decide) (by decide), (sgm (by decide) (by decide)).trans nI_b0⟩⟩, ⟨rfl, rfl, fun k h => absurd h (Nat.not_lt_zero _), fun k h => absurd h (Nat.not_lt_zero _)⟩, fun j _ => ⟨sgm (by decide) (by decide), (show 0 < 300 by decide)⟩, rfl, rfl, fun h => (by cases h)⟩
theorem op0 (k : Nat) : opA pT0 k = 19 := by unfold opA; exact if_neg (Nat.not_lt_zero k)
theorem kOk0 : kOk kS0 := by
  refine ⟨⟨Nat.le_refl 1, (show 1 ≤ 8 by decide), rfl, rfl, fun t h1 h2 => ?_, fun _ _ => rfl, fun _ _ _ => rfl⟩, ⟨Nat.zero_le _, Nat.zero_le _⟩, fun k h => absurd h (Nat.not_lt_zero _), fun k h => absurd h (Nat.not_lt_zero _), ⟨fun k h => ?_, fun k h => ?_, fun k h => ?_⟩, ⟨fun k h => ?_, fun j h => absurd h (Nat.not_lt_zero _)⟩, rfl, (show 0 ≤ 6 by decide), ?_, ?_⟩
  · have h2' : t < 1 := h2
    omega
  · have h' := h; rw [show kS0.2.1 = pT0 from rfl, op0] at h'; omega
  · have h' := h; rw [show kS0.2.1 = pT0 from rfl, op0] at h'; omega
  · have h' := h; unfold juA at h'; rw [show kS0.2.1 = pT0 from rfl, op0] at h'; cases h'
  · have h' := h; rw [show kS0.2.1 = pT0 from rfl, op0] at h'; omega
  · intro j _
    exact vK_0
  · exact ⟨fun j _ _ => ⟨fun h => (by cases h), fun h => (by cases h)⟩, (by intro h; cases h), (by intro h; cases h), fun h => absurd h (Nat.lt_irrefl _)⟩
theorem pIn0 : pIn kS0 sg0 := ⟨cCls0, cMod0, kOk0, fun h => (by cases h)⟩
theorem bnd {α β : Type} {x : Option α} {f : α → Option β} {r : α} {z : β} (h : x.bind (fun r => (f r).map (fun z => (r, z))) = some (r, z)) : x = some r ∧ f r = some z := by
  cases x with
  | none => cases h
  | some a =>
    have h' : (f a).map (fun z => (a, z)) = some (r, z) := h
    cases hf : f a with
    | none => rw [hf] at h'; cases h'
    | some b => rw [hf] at h'; cases h'; exact ⟨rfl, hf⟩
theorem cRun : ∃ r z : Option mc_V × mc_M, mc_ev true 3000 103 0 [(0, .inr (some 0))] [] cM1 = some r ∧ mc_ev true 3000 125 0 [(0, .inr (some 167))] [] (cM2 r) = some z ∧ r.1 = none ∧ z.1 = none ∧ r.2.1 = 167 ∧ z.2.1 = 187 ∧ (∀ a, a < 187 → cEq z.2 a = true) := by
  have h := cChk_ok
  unfold cChk at h
  cases h2 : cE2 with
  | none => rw [h2] at h; cases h
  | some w =>
    obtain ⟨r, z⟩ := w
    rw [h2] at h
    unfold cE2 at h2
    obtain ⟨h1, h5⟩ := bnd (f := fun r => mc_ev true 3000 125 0 [(0, .inr (some 167))] [] (cM2 r)) h2
    unfold cE1 at h1
    simp only [Bool.and_eq_true, decide_eq_true_eq, List.all_eq_true, List.mem_range] at h
    exact ⟨r, z, h1, h5, h.1.1.1.1.1.1, h.1.1.1.1.1.2, h.1.1.1.1.2, h.1.1.1.2, h.1.1.2⟩
theorem cEq_at {z : mc_M} {a j : Nat} (h : cEq z a = true) (hj : j < (mc_ty a).2) : rh0 a j = z.2.1 a j ∧ sg0 a j = z.2.2 a j := by
  unfold cEq at h
  have h1 := List.all_eq_true.mp h j (List.mem_range.mpr hj)
  simp only [Bool.and_eq_true, decide_eq_true_eq] at h1
  exact ⟨h1.1.symm, h1.2.symm⟩
theorem st_us : mc_us 1 = 10 ∧ mc_us 168 = mc_us 167 + 30 ∧ mc_us 1 ≤ mc_us 167 ∧ mc_us 168 ≤ mc_us 187 := by decide +kernel
theorem st_g0 : (∀ o, o < 21 → cG0 1000 o = mc_s0 o) ∧ (∀ o, o < 21 → cG0 1001 o = mc_s1 o) := by decide +kernel
theorem st_s0 : (∀ o, o < 21 → sg0 1000 o = mc_s0 o) ∧ (∀ o, o < 21 → sg0 1001 o = mc_s1 o) := by decide +kernel
set_option maxRecDepth 100000 in
theorem st_cl : ∀ q ∈ vwCl, (∀ w ∈ u_ws q.1 q.2.1 q.2.2, w ∈ lw_tbl) ∧ Cond.instantiable q.1 (if q.1 = "java/lang/String" then 4 else q.2.2) ∈ lw_tbl := by decide +kernel
set_option maxRecDepth 100000 in
theorem st_tk : ∀ j, j < 21 → Cond.eq (.elem (.static "FrameWriter" "TAKES" "[I") (.int (Int32.ofNat j))) (.int (mc_s0 j)) ∈ flatC (Jvm.Cond.and given_1 narrow_1) := by decide +kernel
set_option maxRecDepth 100000 in
theorem st_gv : ∀ j, j < 21 → Cond.eq (.elem (.static "FrameWriter" "GIVES" "[I") (.int (Int32.ofNat j))) (.int (mc_s1 j)) ∈ flatC (Jvm.Cond.and given_1 narrow_1) := by decide +kernel
set_option maxRecDepth 100000 in
theorem st_xt : ∀ w ∈ ox_xt, w ∈ lw_tbl := by decide +kernel
set_option maxHeartbeats 4000000 in
set_option maxRecDepth 100000 in
theorem st_E {s : State} {b : Nat} (hts : ∀ w ∈ lw_tbl, w.before #[Value.ref b] s = true) (hg : (Jvm.Cond.and given_1 narrow_1).before #[Value.ref b] s = true) : ∃ (E : mc_H) (sa : Nat), E.2.2.1 = s.heap.size ∧ ox_U E sa s := by
  have hs := flat_of_before _ hg
  have hD : ∀ c : Nat, ∃ d : ClassId × (Nat → Nat), ∀ q, vwCl[c]? = some q → u_Kn s q.1 q.2.1 q.2.2 d.1 d.2 := by
    intro c
    cases hq : vwCl[c]? with
    | none => exact ⟨((show Nat from 0), fun _ => 0), fun q h => (by cases h)⟩
    | some q =>
      obtain ⟨h1, h2⟩ := st_cl q (List.mem_of_getElem? hq)
      obtain ⟨cC, iS, h⟩ := u_known hts h1 (hts _ h2)
      exact ⟨(cC, iS), fun q' h' => (by cases h'; exact h)⟩
  obtain ⟨D, hD⟩ := Classical.axiomOfChoice hD
  obtain ⟨cI, kI, coI, i1, i2, i3⟩ := Cond.arrayClass_spec (hts (.arrayClass .int) (by decide +kernel))
  obtain ⟨cZ, kZ, coZ, z1, z2, z3⟩ := Cond.arrayClass_spec (hts (.arrayClass .boolean) (by decide +kernel))
  have hao : (Cond.arrayOver (.object RX0)).before #[Value.ref b] s = true := hts _ (by decide +kernel)
  obtain ⟨coO, cO, kO, o1, -, o2, o3, o4⟩ := Cond.arrayOver_spec hao
  have hA : ∀ a : Nat, a < s.heap.size → ¬ (s.heap.size ≤ a ∧ (true = true ∨ a < s.heap.size + 187)) := fun a ha h => by have := h.1; omega
  obtain ⟨tk, ht1, ht2⟩ := va_Tof (A := fun q => s.heap.size ≤ q ∧ (true = true ∨ q < s.heap.size + 187)) (f := fun o => .int (mc_s0 o)) (N := 21) (ty := .int) (tm := .static "FrameWriter" "TAKES" "[I") (by decide) (hs _ (by decide +kernel)) (va_eqt (z := 21) (hs _ (by decide +kernel))) (fun j hj => va_eqt (hs _ (st_tk j hj))) hA
  obtain ⟨gv, hg1, hg2⟩ := va_Tof (A := fun q => s.heap.size ≤ q ∧ (true = true ∨ q < s.heap.size + 187)) (f := fun o => .int (mc_s1 o)) (N := 21) (ty := .int) (tm := .static "FrameWriter" "GIVES" "[I") (by decide) (hs _ (by decide +kernel)) (va_eqt (z := 21) (hs _ (by decide +kernel))) (fun j hj => va_eqt (hs _ (st_gv j hj))) hA
  obtain ⟨sa, -, -, -, hsa, -⟩ := Cond.exactly_spec (hs (.exactly (.string RX11 169) "java/lang/String") (by decide +kernel))
  have hiF : (Cond.initialized "FrameWriter").before #[Value.ref b] s = true := hts _ (by decide +kernel)
  have hiT : (Cond.initialized Bundle.tN).before #[Value.ref b] s = true := hts _ (by decide +kernel)
  refine ⟨((fun c => (D c).1, fun c => (D c).2), (cI, cZ, cO), (s.heap.size, tk, gv)), sa, rfl, ⟨⟨fun c q hq => hD c q hq, fun k q hk => ?_⟩, ⟨va_Zref (hts _ (by decide +kernel)) hiF ht1 hA, ht2⟩, ⟨va_Zref (hts _ (by decide +kernel)) hiF hg1 hA, hg2⟩, va_AO.of hao, Nat.le_refl _⟩, vx_Zqof (hts _ (by decide +kernel)) hiT (hs _ (by decide +kernel)) hA, vx_Zqof (hts _ (by decide +kernel)) hiT (hs _ (by decide +kernel)) hA, vk_R.of (hts _ (by decide +kernel)) hsa, fun w hw => ?_⟩
  · rcases k with _ | _ | _ | k
    · cases hk
      exact ⟨fun n z => ⟨fun k h => (by cases h), kI, i2, coI, i3⟩, i1⟩
    · cases hk
      exact ⟨fun n z => ⟨fun k h => (by cases h), kZ, z2, coZ, z3⟩, z1⟩
    · cases hk
      exact ⟨fun n z => ⟨fun k h => (by cases h), kO, o2, coO, o3⟩, kO, coO, o2, o3, o1, o4⟩
    · cases hk
  · exact va_tabs (by have := ox_xf w hw; simp only [ox_fc, Bool.and_eq_true] at this; exact this.1) rfl (hts w (st_xt w hw))
section LWS
variable {l : Launch} {p : Program} {e : Env} {s : State} {m : MethodId} {below : List Frame} {meth : Method} {c : Code} {Q : State → Prop} {b L : Nat} {xs : Nat → Int32} {E : mc_H}
set_option maxHeartbeats 4000000 in
theorem st_new (C0 : lw_At p s m meth c b L xs) (hU : mc_U E s) {M : mc_M} {ci idx pc cells slots : Nat} {q : vw_C} {H : Heap} {locs : List Loc} {ls : Array Slot} {rest : List Value} (h2 : 2 ≤ ci) (hq : vwCl[ci]? = some q) (h3 : (mc_ty M.1).1 = 3 + ci) (h9 : M.1 < 999) (hw1 : (Cond.classLink R_law idx q.1).before #[Value.ref b] s = true) (hw2 : (Cond.instantiable q.1 q.2.2).before #[Value.ref b] s = true) (hw3 : (Cond.initialized q.1).before #[Value.ref b] s = true) (hd : decode code pc = .ok (.new idx, 3)) (hce : cells + 1 ≤ room_1.cells) (hsl : slots + q.2.2 ≤ room_1.slots) (hS : mc_S E true M H) (hV : va_S (mc_A E true) s.heap H locs)
    (k : ∀ H1 : Heap, mc_S E true (M.1 + 1, mc_cl M.2.1 M.1 none, mc_cl M.2.2 M.1 0) H1 → va_S (mc_A E true) s.heap H1 locs → W p l e room_1 s m #[Value.ref b] below meth c H1 locs (cells + 1) (slots + q.2.2) Q (F0 m (pc + 3) ls (.ref (mc_adr E M.1) :: rest))) : W p l e room_1 s m #[Value.ref b] below meth c H locs cells slots Q (F0 m pc ls rest) := by
  obtain ⟨hx, hb, hr, hml, hown, hts, hX, hbl, hlocks, hgv⟩ := C0
  have htm : ∀ w ∈ mc_ws, w.before #[Value.ref b] s = true := fun w hw => hts w (List.mem_filter.mp hw).1
  obtain ⟨hcw, ⟨ty0, hty0, hdef⟩, hnames⟩ := mc_cls h2 hq
  have hn := mc_ty_n hq h3
  have hKn := hU.1.1 _ _ hq
  refine W.newcK hx hb hown hw1 hw2 hw3 rfl hd hce hsl hKn.2.1 rfl fun H1 kC hkC e1 z1 o1 => ?_
  have hborn : va_at E.1 vwCl (H.size, mc_cell E (mc_cl M.2.1 M.1 none) (mc_cl M.2.2 M.1 0) M.1) H1 := by
    rw [mc_cell3 h3, mc_cla, mc_cla, hn]
    refine ⟨_, hq, (u_born ty0 htm hcw hKn hkC e1 hty0).to (fun j hj => ?_)⟩
    exact (hdef j hj).trans (mc_fs_new hj).symm
  obtain ⟨hS1, ea⟩ := hS.nw h9 hborn z1 o1 (fun b hb => mc_cln _ _ hb) (fun b hb => mc_cln _ _ hb)
  have hk := k H1 hS1 ⟨Nat.le_trans hV.1 (by omega), fun x h1 h2 => (o1 x (Nat.lt_of_lt_of_le h1 hV.1)).trans (hV.2.1 x h1 h2), hV.2.2⟩
  rw [ea] at hk
  exact hk
set_option maxHeartbeats 4000000 in
theorem st_ini (C0 : lw_At p s m meth c b L xs) (hU : mc_U E s) {y idx a pc cells slots : Nat} {u : mc_T} {M : mc_M} {z : Option mc_V × mc_M} {H : Heap} {locs : List Loc} {ls : Array Slot} {rest : List Value} (hu : mc_tab[y]? = some u) (hE : mc_E true y 0 (mc_lo 0 [.inr (some a)]) [] M z) (hz : z.1 = none) (hrt : u.2.2.2.1 = none) (hini : u.1.name = "<init>") (hna : 1 ≤ u.2.2.1) (hw1 : (Cond.methodLink R_law idx u.1).before #[Value.ref b] s = true) (hw2 : (Cond.instanceMethod u.1).before #[Value.ref b] s = true) (hf : mc_num u 0 + 1 ≤ room_1.frames) (hlo : 8 + (u.2.2.1 + 11) + mc_num u 1 ≤ room_1.locals) (hsig : (parseMethodDescriptor u.1.desc).map (fun d' => d'.parameters.length) = some 0) (hd : decode code pc = .ok (.invokespecial idx, 3)) (hls : ls.size = 7) (hr8 : (rest.map fun v => v.category).sum ≤ 8)
    (hce : cells + (z.2.1 - M.1) ≤ room_1.cells) (hsl : slots + (mc_us z.2.1 - mc_us M.1) ≤ room_1.slots) (hS : mc_S E true M H) (hV : va_S (mc_A E true) s.heap H locs)
    (k : ∀ (H1 : Heap) (locs1 : List Loc), mc_S E true z.2 H1 → va_S (mc_A E true) s.heap H1 locs1 → W p l e room_1 s m #[Value.ref b] below meth c H1 locs1 (cells + (z.2.1 - M.1)) (slots + (mc_us z.2.1 - mc_us M.1)) Q (F0 m (pc + 3) ls rest)) : W p l e room_1 s m #[Value.ref b] below meth c H locs cells slots Q (F0 m pc ls (.ref (mc_adr E a) :: rest)) := by
  obtain ⟨hx, hb, hr, hml, hown, hts, hX, hbl, hlocks, hgv⟩ := C0
  have htm : ∀ w ∈ mc_ws, w.before #[Value.ref b] s = true := fun w hw => hts w (List.mem_filter.mp hw).1
  have S : CallFix p m c code 7 s #[Value.ref b] lw_tbl R_law := ⟨hx, hb, hml, hown, hts⟩
  have hM := mc_met l E true hu (by simpa using hna) hE
  have ho := (ck_all u (List.mem_of_getElem? hu)).2
  obtain ⟨hoc, hoi, hoh⟩ := mc_own_of ho
  have hwd : Cond.code u.1 u.2.1 u.2.2.1 none ∈ mc_wds u := by rw [← hrt]; exact List.mem_cons_self
  have hoc' : Cond.code u.1 u.2.1 u.2.2.1 none ∈ mc_ws := by rw [← hrt]; exact hoc
  have hpre : PreS s H (mc_Pc E true [.inr (some a)] M) (([.inr (some a)] : List mc_V).map (mc_tv E)) := mc_preS hU hS hV
  have hrun := va_runI (As := []) (b := mc_adr E a) (n := 0) (R := room_1) (index := idx) (H := H) (g := F0 m pc ls (.ref (mc_adr E a) :: rest)) (rest := rest) (cells := cells) (slots := slots) (locs := locs) (below := below) (e := e) (meth := meth) S hM ⟨⟨rfl, rfl, hf, hlo, mc_pays htm ho, hwd, htm _ hoc', htm _ hoi, hoh, lo_sig hsig, hw1⟩, hini, hw2⟩ hpre rfl rfl hls rfl (lv_room hr8) hd ⟨hce, hsl⟩
  intro T hT X
  obtain ⟨v, st₀, tt, T', L', h00, X', hL', e1, e2, hq2, st⟩ := hrun T hT X
  obtain ⟨hv, hU1, hS2, hzz, hk⟩ := hq2
  rw [h00] at hzz hk
  have hv' : v = none := by
    have := Outcome.returned.inj hv
    rw [this, hz]; rfl
  subst hv'
  obtain ⟨t2, a1, b1⟩ := k T'.heap (locs ++ L') (by rw [e1]; exact hS2) ⟨Nat.le_trans hV.1 (by rw [e1]; exact hzz), fun q h1 h2 => by rw [e1, hk q (Nat.lt_of_lt_of_le h1 hV.1) h2]; exact hV.2.1 q h1 h2, fun q hq => by
      rcases List.mem_append.mp hq with h | h
      · exact hV.2.2 q h
      · exact hL' q h⟩ T' rfl X'
  exact ⟨t2, st t2 a1, b1⟩
set_option maxHeartbeats 4000000 in
set_option maxRecDepth 100000 in
theorem whole_start (l : Launch) (hl : l.stackTraces = false) (hL : L ≤ 2560) (C0 : lw_At p s m meth c b L xs) : W p l e room_1 s m #[Value.ref b] below meth c s.heap [] 0 0 (lw_Z below #[Value.ref b] s) (entryFrame m ([Value.ref b] : List Value).toArray 7) := by
  obtain ⟨E, sa, hb0, hU⟩ := st_E C0.2.2.2.2.2.1 C0.2.2.2.2.2.2.2.2.2
  have hx := C0.1
  have hb := C0.2.1
  have hts := C0.2.2.2.2.2.1
  obtain ⟨⟨r0, rn, rρ, rσ⟩, ⟨z0, zn, zρ, zσ⟩, hr1, hz1, hr0, hz0, hrn, hzn, hce⟩ := cRun
  have hrn' : rn = 167 := hrn
  have hzn' : zn = 187 := hzn
  subst hrn'
  subst hzn'
  obtain ⟨u1, u2, u3, u4⟩ := st_us
  have hus := lw_us
  have hl0 := lv_entry [.ref b] (n := 7) (Nat.le_of_ble_eq_true rfl)
  rw [lg_entry_eq]
  generalize (lg_sl [.ref b] ++ List.replicate (7 - (lg_sl [.ref b]).length) Slot.unset).toArray = ls at hl0 ⊢
  have hlv : lv_has ls 7 [(0, .ref b)] := hl0
  show W p l e room_1 s m #[Value.ref b] below meth c s.heap [] 0 0 (lw_Z below #[Value.ref b] s) (F0 m 0 ls [])
  have hS0 : mc_S E true (0, cR0, cG0) s.heap := ⟨⟨by decide, fun h => (by cases h)⟩, fun a h => absurd h (Nat.not_lt_zero _), fun _ => hb0.symm, st_g0.1, st_g0.2⟩
  refine st_new C0 hU.1 (ci := 13) (by decide) rfl rfl (show 0 < 999 by decide) (hts _ (by decide +kernel)) (hts _ (by decide +kernel)) (hts _ (by decide +kernel)) dL_law_0 (by decide) (by decide) hS0 va_S.rf (fun H1 hS1 hV1 => ?_)
  refine lv_dup hx hb dL_law_3 rfl ?_
  refine st_ini C0 hU.1 (y := 103) (u := mkX11_init) (a := 0) (M := cM1) (z := (r0, 167, rρ, rσ)) rfl ⟨3000, hr1⟩ hr0 rfl rfl (by decide) (hts _ (by decide +kernel)) (hts _ (by decide +kernel)) (by decide) (by decide) (by decide +kernel) dL_law_4 hlv.1 (Nat.le_of_ble_eq_true rfl) (show 0 + 1 + (167 - 1) ≤ 603072 by decide) (show 0 + 10 + (mc_us 167 - mc_us 1) ≤ 7211114 by have := mc_us_mono (show 167 ≤ 187 by decide); omega) hS1 hV1 (fun H2 locs2 hS2 hV2 => ?_)
  refine lv_astore_n hx hb dL_law_7 rfl hlv (by decide) rfl (fun ls1 hlv1 => ?_)
  refine st_new C0 hU.1 (ci := 14) (by decide) rfl rfl (show 167 < 999 by decide) (hts _ (by decide +kernel)) (hts _ (by decide +kernel)) (hts _ (by decide +kernel)) dL_law_8 (show 0 + 1 + (167 - 1) + 1 ≤ 603072 by decide) (show 0 + 10 + (mc_us 167 - mc_us 1) + 30 ≤ 7211114 by have := mc_us_mono (show 167 ≤ 187 by decide); omega) hS2 hV2 (fun H3 hS3 hV3 => ?_)
  refine lv_dup hx hb dL_law_11 rfl ?_
  refine st_ini C0 hU.1 (y := 125) (u := mkX12_init) (a := 167) (M := cM2 (r0, 167, rρ, rσ)) (z := (z0, 187, zρ, zσ)) rfl ⟨3000, hz1⟩ hz0 rfl rfl (by decide) (hts _ (by decide +kernel)) (hts _ (by decide +kernel)) (by decide) (by decide) (by decide +kernel) dL_law_12 hlv1.1 (Nat.le_of_ble_eq_true rfl) (show 0 + 1 + (167 - 1) + 1 + (187 - 168) ≤ 603072 by decide) (show 0 + 10 + (mc_us 167 - mc_us 1) + 30 + (mc_us 187 - mc_us 168) ≤ 7211114 by omega) hS3 hV3 (fun H4 locs4 hS4 hV4 => ?_)
  refine lv_astore_n hx hb dL_law_15 rfl hlv1 (by decide) rfl (fun ls2 hlv2 => ?_)
  refine lv_iconst hx hb dL_law_16 (v := 1) rfl ?_
  have hsz : H4.size = E.2.2.1 + 187 := hS4.2.2.1 rfl
  refine va_newaK hx hb (hts _ (by decide +kernel)) rfl dL_law_17 (n := 1) (N := 1) rfl (by decide) (by decide) (by decide) (show 0 + 1 + (167 - 1) + 1 + (187 - 168) + 1 ≤ 603072 by decide) (show 0 + 10 + (mc_us 167 - mc_us 1) + 30 + (mc_us 187 - mc_us 168) + 1 ≤ 7211114 by omega) hsz (fun H5 cA h5 hz5 oq hAr hNm => ?_)
  show W p l e room_1 s m #[Value.ref b] below meth c H5 locs4 (0 + 1 + (167 - 1) + 1 + (187 - 168) + 1) (0 + 10 + (mc_us 167 - mc_us 1) + 30 + (mc_us 187 - mc_us 168) + 1) (lw_Z below #[Value.ref b] s) (F0 m 19 ls2 [.ref (E.2.2.1 + 187)])
  refine lv_astore_n hx hb dL_law_19 rfl hlv2 (by decide) rfl (fun ls3 hlv3 => ?_)
  refine lv_iconst hx hb dL_law_20 (v := nI (5 * 0)) (by decide) ?_
  refine lv_istore hx hb dL_law_21 hlv3 (by decide) rfl (fun ls4 hlv4 => ?_)
  have hq5 : ∀ q : Nat, q < H4.size → H5[q]? = H4[q]? := fun q h => oq q (by rw [← hsz]; exact h)
  have hSe : mc_S E false (187, rh0, sg0) H5 := by
    refine ⟨⟨by decide, fun _ => Nat.le_refl _⟩, fun a ha => ?_, fun h => (by cases h), st_s0.1, st_s0.2⟩
    exact mc_at_cg (fun j hj => cEq_at (hce a ha) hj) ((hS4.2.1 a ha).kept (hq5 _ (hS4.2.1 a ha).lt))
  refine lw_loop hl (sa := sa) (cA := cA) ⟨C0, hU, hAr, hb0, hL⟩ (L / 5) 0 kS0 sg0 H5 locs4 _ _ ls4 (by omega) (by omega) pIn0 ⟨⟨hSe, ⟨Nat.le_trans hV4.1 (by omega), fun q h1 h2 => (hq5 q (Nat.lt_of_lt_of_le h1 hV4.1)).trans (hV4.2.1 q h1 h2), hV4.2.2⟩, by omega⟩, ⟨0, _, h5, rfl⟩, by decide, by omega, hlv4⟩
end LWS

section MCALL
variable {l : Launch} {p : Program} {e : Env} {R : Room} {s : State} {m : MethodId} {args : Array Value} {below : List Frame} {meth : Method} {c : Code} {Q : State → Prop}
theorem mc_own_of {u : mc_T} (ho : mc_own u) : Cond.code u.1 u.2.1 u.2.2.1 u.2.2.2.1 ∈ mc_ws ∧ Cond.initialized u.1.cls ∈ mc_ws ∧ u.1.cls ≠ "java/lang/invoke/MethodHandle" ∧ u.1.cls ≠ "java/lang/invoke/VarHandle" := by
  obtain ⟨h1, h2⟩ := ho
  simp only [Bool.and_eq_true, decide_eq_true_eq] at h2
  exact ⟨List.mem_filter.mpr ⟨List.mem_of_getElem? h1, rfl⟩, mc_has_in h2.1.1.1, h2.1.2, h2.2⟩
theorem mc_cal_of {t u : mc_T} {na d : Nat} (h : mc_cal t u na d = true) : (parseMethodDescriptor u.1.desc).map (fun d' => d'.parameters.length + d) = some na ∧ mc_num u 0 + 1 ≤ mc_num t 0 ∧ 8 + (u.2.2.1 + 11) + mc_num u 1 ≤ mc_num t 1 ∧ na ≤ u.2.2.1 := by
  simp only [mc_cal, Bool.and_eq_true, decide_eq_true_eq] at h
  exact ⟨h.1.1.1, h.1.1.2, h.1.2, h.2⟩
theorem mc_sig_of {u : mc_T} {na d n : Nat} (h : (parseMethodDescriptor u.1.desc).map (fun d' => d'.parameters.length + d) = some na) (hn : n + d = na) : ∀ sig, parseMethodDescriptor u.1.desc = some sig → n = sig.parameters.length := by
  intro sig hs
  rw [hs] at h
  have := Option.some.inj h
  simp only at this
  omega
theorem mc_pays (hts : ∀ w ∈ mc_ws, w.before args s = true) {u : mc_T} (ho : mc_own u) : ∀ w ∈ mc_wds u, ∀ (a' : Array Value) (U : State), s.WarmedH U.vm → w.before a' U = true := by
  intro w hw
  rcases List.mem_cons.mp hw with rfl | h
  · exact mc_pay hts _ (mc_own_of ho).1
  · exact mc_pay hts w h
theorem mc_preS {E : mc_H} {al : Bool} {as : List mc_V} {M : mc_M} {H : Heap} {locs : List Loc} (hU : mc_U E s) (hS : mc_S E al M H) (hV : va_S (mc_A E al) s.heap H locs) : PreS s H (mc_Pc E al as M) (as.map (mc_tv E)) :=
  ⟨mc_blind E al as M, fun U hH hW => ⟨rfl, hU.to hW.alike (by rw [hH]; exact hV.1) (fun q h1 h2 => by rw [hH]; exact hV.2.1 q h1 (fun h => h2 (mc_A_w h))), by rw [hH]; exact hS⟩⟩
theorem mc_take_drop {st as : List mc_V} {na : Nat} (h : (st.take na).reverse = as) : st = as.reverse ++ st.drop na := by
  rw [← h, List.reverse_reverse, List.take_append_drop]
set_option maxHeartbeats 4000000 in
set_option maxRecDepth 100000 in
/-- one instruction that calls -/
theorem mc_simc {E : mc_H} {al : Bool} {t u : mc_T} (C : mc_Cx E t p s m args meth c)
    {pc len n0 nF y' : Nat} {i : Instr} {rr : List Nat} {lo : List (Nat × mc_V)} {st as rest : List mc_V} {M : mc_M} {z : Option mc_V × mc_M} (hck : mc_chk t (pc, i, len, rr) = true) (hdo : mc_do al i len rr pc lo st M = some (.inr (.inr (y', as, rest)))) (hu : mc_tab[y']? = some u) (ho : mc_own u)
    (hM : as.length ≤ u.2.2.1 → Met l u.1 (mc_wds u) (mc_rm u M.1 z.2.1) (mc_Pc E al as M) (mc_Qc E al z) (z.2.1 - M.1) (mc_us z.2.1 - mc_us M.1) (mc_A E al)) (hR : R = mc_rm t n0 nF) (hm : M.1 ≤ z.2.1) (hF : z.2.1 ≤ nF)
    {H : Heap} {locs : List Loc} {cells slots : Nat} {ls : Array Slot} (hr : mc_Rep E al t n0 s lo M H locs cells slots ls)
    (k : ∀ (H' : Heap) (locs' : List Loc) (cells' slots' : Nat), mc_Rep E al t n0 s lo z.2 H' locs' cells' slots' ls → W p l e R s m args below meth c H' locs' cells' slots' Q (F0 m (pc + 3) ls ((z.1.toList ++ rest).map (mc_tv E)))) :
    W p l e R s m args below meth c H locs cells slots Q (F0 m pc ls (st.map (mc_tv E))) := by
  obtain ⟨hx, hb, hml, hown, hts, hret, hlocks, hnm, hU⟩ := id C
  obtain ⟨hd, hlen, hlk⟩ := mc_chk_of hck
  obtain ⟨hlv, hS, hV, h0, hce, hsl⟩ := id hr
  have hK : va_K E.1 vwCl (mc_tys E) s := hU.1
  obtain ⟨hoc, hoi, hoh⟩ := mc_own_of ho
  have hm1 := mc_us_mono hm
  have hm0 := mc_us_mono h0
  have hmF := mc_us_mono hF
  have hroom : cells + (z.2.1 - M.1) ≤ R.cells ∧ slots + (mc_us z.2.1 - mc_us M.1) ≤ R.slots := by
    subst hR
    exact ⟨by show _ ≤ nF - n0; omega, by show _ ≤ mc_us nF - mc_us n0; omega⟩
  have S : CallFix p m c t.2.1 t.2.2.1 s args mc_ws t.1.cls := ⟨hx, hb, hml, hown, hts⟩
  unfold mc_do at hdo
  split at hdo
  case h_45 =>
    simp only [mc_lenok, beq_iff_eq] at hlen; subst hlen
    split at hdo
    · rename_i a as' hrev
      split at hdo
      · rename_i hc
        cases hdo
        obtain ⟨ha, h3, hle, h8⟩ := hc
        simp only [mc_link, hu] at hlk
        simp only [Bool.and_eq_true, decide_eq_true_eq] at hlk
        obtain ⟨⟨⟨⟨⟨hcal, hnest⟩, hw1⟩, hw2⟩, hw3⟩, hvc⟩ := hlk
        obtain ⟨hsig, hf, hlo, hna⟩ := mc_cal_of hcal
        have hlen2 : as'.length + 1 = rr.getD 1 0 := by
          have := congrArg List.length hrev
          rw [List.length_reverse, List.length_take, Nat.min_eq_left hle] at this
          simpa using this.symm
        have hM' := hM (by rw [List.length_cons]; omega)
        cases hq : vwCl[rr.getD 6 0]? with
        | none => rw [hq] at hvc; cases hvc
        | some q =>
          rw [hq] at hvc
          have hqc : q.1 = u.1.cls := Option.some.inj hvc
          have hat := hS.2.1 a ha
          rw [mc_cell3 h3] at hat
          have hrv := va_recv hK (mc_one hat) hq (q0 := 0) rfl
          rw [hqc] at hrv
          refine mc_after hr hm (va_runV (C := u.1.cls) (As := as'.map (mc_tv E)) (b := mc_adr E a) (n := as'.length) S hM' ⟨⟨rfl, rfl, by subst hR; exact hf, by subst hR; exact hlo, mc_pays hts ho, List.mem_cons_self, hts _ hoc, hts _ hoi, hoh, mc_sig_of hsig hlen2, hts _ (mc_has_in hw1)⟩, hts _ (mc_has_in hw2), hts _ (mc_has_in hw3)⟩ ⟨mc_blind E al _ M, hrv, (mc_preS (as := .inr (some a) :: as') hU hS hV).2⟩ rfl (by simp) hlv.1 ?_ (lv_room (mc_catsum E h8)) hd hroom) k
          show st.map (mc_tv E) = _
          conv => lhs; rw [mc_take_drop hrev]
          simp [mc_tv, va_rf]
      · cases hdo
    · cases hdo
  case h_46 =>
    simp only [mc_lenok, beq_iff_eq] at hlen; subst hlen
    split at hdo
    · split at hdo
      · split at hdo <;> cases hdo
      · cases hdo
    · rename_i n90
      split at hdo
      · split at hdo
        · split at hdo <;> cases hdo
        · cases hdo
      · rename_i n91
        split at hdo
        · split at hdo
          · split at hdo <;> cases hdo
          · cases hdo
        · rename_i n92
          split at hdo
          · split at hdo
            · split at hdo <;> cases hdo
            · cases hdo
          · rename_i n99
            split at hdo
            · rename_i hc
              cases hdo
              obtain ⟨hle, h8⟩ := hc
              simp only [mc_link, n90, n91, n92, n99, if_false, hu] at hlk
              simp only [Bool.and_eq_true] at hlk
              obtain ⟨⟨hcal, hw2⟩, hw1⟩ := hlk
              obtain ⟨hsig, hf, hlo, hna⟩ := mc_cal_of hcal
              have hlen2 : ((st.take (rr.getD 1 0)).reverse).length + 0 = rr.getD 1 0 := by
                rw [List.length_reverse, List.length_take, Nat.min_eq_left hle]; rfl
              have hM' := hM (by omega)
              have hstk : st.map (mc_tv E) = (((st.take (rr.getD 1 0)).reverse).map (mc_tv E)).reverse ++ (st.drop (rr.getD 1 0)).map (mc_tv E) := by
                conv => lhs; rw [mc_take_drop (st := st) (na := rr.getD 1 0) rfl]
                simp
              by_cases hne : rr.getD 2 0 = 0
              · rw [if_pos hne] at hw1
                exact mc_after hr hm (va_runS (As := ((st.take (rr.getD 1 0)).reverse).map (mc_tv E)) (n := ((st.take (rr.getD 1 0)).reverse).length) S hM' ⟨⟨rfl, rfl, by subst hR; exact hf, by subst hR; exact hlo, mc_pays hts ho, List.mem_cons_self, hts _ hoc, hts _ hoi, hoh, mc_sig_of hsig hlen2, hts _ (mc_has_in hw1)⟩, hts _ (mc_has_in hw2)⟩ (mc_preS hU hS hV) rfl (by simp) hlv.1 hstk (lv_room (mc_catsum E h8)) hd hroom) k
              · rw [if_neg hne] at hw1
                exact mc_after hr hm (va_runSN (As := ((st.take (rr.getD 1 0)).reverse).map (mc_tv E)) (n := ((st.take (rr.getD 1 0)).reverse).length) S hM' ⟨⟨⟨rfl, rfl, by subst hR; exact hf, by subst hR; exact hlo, mc_pays hts ho, List.mem_cons_self⟩, hts _ hoc, hts _ hoi, hoh, mc_sig_of hsig hlen2, hts _ (mc_has_in hw1)⟩, hts _ (mc_has_in hw2), trivial⟩ (mc_preS hU hS hV) rfl (by simp) hlv.1 hstk (lv_room (mc_catsum E h8)) hd hroom) k
            · cases hdo
  case h_47 =>
    simp only [mc_lenok, beq_iff_eq] at hlen; subst hlen
    split at hdo
    · split at hdo <;> cases hdo
    · rename_i n98
      split at hdo
      · rename_i a as' hrev
        split at hdo
        · rename_i hc
          cases hdo
          obtain ⟨hle, h8⟩ := hc
          simp only [mc_link, n98, if_false, hu] at hlk
          simp only [Bool.and_eq_true, decide_eq_true_eq] at hlk
          obtain ⟨⟨⟨⟨hcal, hrt⟩, hini⟩, hw2⟩, hw1⟩ := hlk
          obtain ⟨hsig, hf, hlo, hna⟩ := mc_cal_of hcal
          have hlen2 : as'.length + 1 = rr.getD 1 0 := by
            have := congrArg List.length hrev
            rw [List.length_reverse, List.length_take, Nat.min_eq_left hle] at this
            simpa using this.symm
          have hM' := hM (by rw [List.length_cons]; omega)
          have hstk : st.map (mc_tv E) = (as'.map (mc_tv E)).reverse ++ .ref (mc_adr E a) :: (st.drop (rr.getD 1 0)).map (mc_tv E) := by
            conv => lhs; rw [mc_take_drop hrev]
            simp [mc_tv, va_rf]
          have hwd : Cond.code u.1 u.2.1 u.2.2.1 none ∈ mc_wds u := by rw [← hrt]; exact List.mem_cons_self
          have hoc' : Cond.code u.1 u.2.1 u.2.2.1 none ∈ mc_ws := by rw [← hrt]; exact hoc
          by_cases hne : rr.getD 2 0 = 0
          · rw [if_pos hne] at hw1
            exact mc_after hr hm (va_runI (As := as'.map (mc_tv E)) (b := mc_adr E a) (n := as'.length) S hM' ⟨⟨rfl, rfl, by subst hR; exact hf, by subst hR; exact hlo, mc_pays hts ho, hwd, hts _ hoc', hts _ hoi, hoh, mc_sig_of hsig hlen2, hts _ (mc_has_in hw1)⟩, hini, hts _ (mc_has_in hw2)⟩ (mc_preS (as := .inr (some a) :: as') hU hS hV) rfl (by simp) hlv.1 hstk (lv_room (mc_catsum E h8)) hd hroom) k
          · rw [if_neg hne] at hw1
            exact mc_after hr hm (va_runIN (As := as'.map (mc_tv E)) (b := mc_adr E a) (n := as'.length) S hM' ⟨⟨⟨rfl, rfl, by subst hR; exact hf, by subst hR; exact hlo, mc_pays hts ho, hwd⟩, hts _ hoc', hts _ hoi, hoh, mc_sig_of hsig hlen2, hts _ (mc_has_in hw1)⟩, hini, hts _ (mc_has_in hw2)⟩ (mc_preS (as := .inr (some a) :: as') hU hS hV) rfl (by simp) hlv.1 hstk (lv_room (mc_catsum E h8)) hd hroom) k
        · cases hdo
      · cases hdo
  all_goals ((repeat' split at hdo) <;> cases hdo)
set_option maxHeartbeats 4000000 in
set_option maxRecDepth 100000 in
/-- one instruction that ends the method -/
theorem mc_simr {E : mc_H} {al : Bool} {t : mc_T} (C : mc_Cx E t p s m args meth c)
    {pc len n0 : Nat} {i : Instr} {rr : List Nat} {lo : List (Nat × mc_V)} {st : List mc_V} {M : mc_M} {rv : Option mc_V} (hck : mc_chk t (pc, i, len, rr) = true) (hdo : mc_do al i len rr pc lo st M = some (.inr (.inl rv)))
    {H : Heap} {locs : List Loc} {cells slots : Nat} {ls : Array Slot} (hr : mc_Rep E al t n0 s lo M H locs cells slots ls) :
    W p l e R s m args below meth c H locs cells slots (MQ below (mc_Qc E al (rv, M)) args s (M.1 - n0) (mc_us M.1 - mc_us n0) (mc_A E al)) (F0 m pc ls (st.map (mc_tv E))) := by
  obtain ⟨hx, hb, hml, hown, hts, hret, hlocks, hnm, hU⟩ := C
  obtain ⟨hd, hlen, hlk⟩ := mc_chk_of hck
  obtain ⟨hlv, hS, hV, h0, hce, hsl⟩ := hr
  subst hce
  subst hsl
  have hq : ∀ tt : State, tt.heap = H → s.WarmedH tt.vm → mc_U E tt ∧ mc_S E al M tt.heap ∧ va_F (mc_A E al) s tt := fun tt hH hW =>
    ⟨hU.to hW.alike (by rw [hH]; exact hV.1) (fun q h1 h2 => by rw [hH]; exact hV.2.1 q h1 (fun h => h2 (mc_A_w h))), by rw [hH]; exact hS, hV.F hH⟩
  unfold mc_do at hdo
  split at hdo
  case h_48 =>
    simp only [mc_lenok, beq_iff_eq] at hlen; subst hlen
    split at hdo
    · rename_i x hc
      cases hdo
      simp only [mc_link, decide_eq_true_eq] at hlk
      rw [hlk] at hret
      refine W.zret hx hb hret ?_ (fun tt hH hW => ⟨rfl, hq tt hH hW⟩) hV.2.2 hd hlocks
      by_cases h00 : rr.getD 0 0 = 0
      · rw [if_pos h00]; rfl
      · rw [if_neg h00]
        rcases hc with h | rfl | rfl
        · exact absurd h h00
        · decide +kernel
        · decide +kernel
    · cases hdo
  case h_49 =>
    simp only [mc_lenok, beq_iff_eq] at hlen; subst hlen
    cases hdo
    simp only [mc_link, decide_eq_true_eq] at hlk
    rcases mc_fk2 hlk with ⟨n, h⟩ | ⟨n, h⟩
    · exact W.aret hx hb (hret.trans h) (Or.inl ⟨n, rfl⟩) (Or.inr ⟨_, rfl⟩) (fun tt hH hW => ⟨rfl, hq tt hH hW⟩) hV.2.2 hd hlocks
    · exact W.aret hx hb (hret.trans h) (Or.inr ⟨n, rfl⟩) (Or.inr ⟨_, rfl⟩) (fun tt hH hW => ⟨rfl, hq tt hH hW⟩) hV.2.2 hd hlocks
  case h_50 =>
    simp only [mc_lenok, beq_iff_eq] at hlen; subst hlen
    cases hdo
    simp only [mc_link, decide_eq_true_eq] at hlk
    exact W.vret hx hb (hret.trans hlk) (fun tt hH hW => ⟨rfl, hq tt hH hW⟩) hV.2.2 hd hlocks
  all_goals ((repeat' split at hdo) <;> cases hdo)
end MCALL

theorem mc_catsum (E : mc_H) {st : List mc_V} (h : st.length ≤ 8) : ((st.map (mc_tv E)).map fun v => v.category).sum ≤ 8 := by
  have e : ∀ st : List mc_V, ((st.map (mc_tv E)).map fun v => v.category).sum = st.length := by
    intro st
    induction st with
    | nil => rfl
    | cons v r ih => rw [List.map_cons, List.map_cons, List.sum_cons, ih, mc_tv_cat, List.length_cons]; omega
  rw [e]; exact h
theorem mc_fs_new {E : mc_H} {k n j : Nat} (hj : j < n) : vp_V (mc_fs E k n (fun _ => none) (fun _ => 0)) j = if mc_isr k j = true then .null else .int 0 := by
  unfold vp_V
  rw [List.getD_eq_getElem?_getD, mc_fs_get hj]
  by_cases h : mc_isr k j = true <;> simp [h, va_rf]
section MSIM
variable {l : Launch} {e : Env} {R : Room} {below : List Frame} {Q : State → Prop}
set_option maxHeartbeats 4000000 in
set_option maxRecDepth 100000 in
/-- one instruction that goes on -/
theorem mc_sim {E : mc_H} {al : Bool} {t : mc_T} {p : Program} {s : State} {m : MethodId} {args : Array Value} {meth : Method} {c : Code} (C : mc_Cx E t p s m args meth c)
    {pc pc' len n0 nF : Nat} {i : Instr} {rr : List Nat} {lo lo' : List (Nat × mc_V)} {st st' : List mc_V} {M M' : mc_M} (hck : mc_chk t (pc, i, len, rr) = true) (hdo : mc_do al i len rr pc lo st M = some (.inl (pc', lo', st', M'))) (hR : R = mc_rm t n0 nF) (hF : M'.1 ≤ nF)
    {H : Heap} {locs : List Loc} {cells slots : Nat} {ls : Array Slot} (hr : mc_Rep E al t n0 s lo M H locs cells slots ls)
    (k : ∀ (H' : Heap) (locs' : List Loc) (cells' slots' : Nat) (ls' : Array Slot), mc_Rep E al t n0 s lo' M' H' locs' cells' slots' ls' → W p l e R s m args below meth c H' locs' cells' slots' Q (F0 m pc' ls' (st'.map (mc_tv E)))) :
    W p l e R s m args below meth c H locs cells slots Q (F0 m pc ls (st.map (mc_tv E))) := by
  obtain ⟨hx, hb, hml, hown, hts, hret, hlocks, hnm, hU⟩ := C
  obtain ⟨hd, hlen, hlk⟩ := mc_chk_of hck
  obtain ⟨hlv, hS, hV, h0, hce, hsl⟩ := hr
  have hK : va_K E.1 vwCl (mc_tys E) s := hU.1
  have hrep : mc_Rep E al t n0 s lo M H locs cells slots ls := ⟨hlv, hS, hV, h0, hce, hsl⟩
  unfold mc_do at hdo
  split at hdo
  -- iconst
  · simp only [mc_lenok, beq_iff_eq] at hlen; subst hlen
    cases hdo
    exact lv_iconst hx hb hd rfl (k _ _ _ _ _ hrep)
  · simp only [mc_lenok, beq_iff_eq] at hlen; subst hlen
    cases hdo
    exact lv_bipush hx hb hd rfl (k _ _ _ _ _ hrep)
  · simp only [mc_lenok, beq_iff_eq] at hlen; subst hlen
    cases hdo
    exact lv_sipush hx hb hd rfl (k _ _ _ _ _ hrep)
  -- ldc
  · simp only [mc_lenok, beq_iff_eq] at hlen; subst hlen
    cases hdo
    exact lv_ldc hx hb hown (hts _ (mc_has_in hlk)) hd (k _ _ _ _ _ hrep)
  · simp only [mc_lenok, beq_iff_eq] at hlen; subst hlen
    cases hdo
    exact lv_ldcw hx hb hown (hts _ (mc_has_in hlk)) hd (k _ _ _ _ _ hrep)
  -- loads
  · simp only [mc_lenok, beq_iff_eq] at hlen; subst hlen
    split at hdo
    · rename_i hg
      cases hdo
      exact lv_iload_n hx hb hd rfl (mc_get_at hg hlv) (k _ _ _ _ _ hrep)
    · cases hdo
  · simp only [mc_lenok, beq_iff_eq] at hlen; subst hlen
    split at hdo
    · rename_i hg
      cases hdo
      exact lv_iload hx hb hd (mc_get_at hg hlv) (k _ _ _ _ _ hrep)
    · cases hdo
  · simp only [mc_lenok, beq_iff_eq] at hlen; subst hlen
    split at hdo
    · rename_i hg
      cases hdo
      exact lv_aload_n hx hb hd rfl (mc_get_at hg hlv) (k _ _ _ _ _ hrep)
    · cases hdo
  · simp only [mc_lenok, beq_iff_eq] at hlen; subst hlen
    split at hdo
    · rename_i hg
      cases hdo
      exact lv_aload hx hb hd (mc_get_at hg hlv) (k _ _ _ _ _ hrep)
    · cases hdo
  -- stores
  · simp only [mc_lenok, beq_iff_eq] at hlen; subst hlen
    cases hdo
    exact lv_istore_n hx hb hd rfl hlv (of_decide_eq_true hlk) (mc_set_tr E lo _ (.inl _)) (fun ls' hl' => k _ _ _ _ _ ⟨hl', hS, hV, h0, hce, hsl⟩)
  · simp only [mc_lenok, beq_iff_eq] at hlen; subst hlen
    cases hdo
    exact lv_istore hx hb hd hlv (of_decide_eq_true hlk) (mc_set_tr E lo _ (.inl _)) (fun ls' hl' => k _ _ _ _ _ ⟨hl', hS, hV, h0, hce, hsl⟩)
  · simp only [mc_lenok, beq_iff_eq] at hlen; subst hlen
    cases hdo
    exact lv_astore_n hx hb hd rfl hlv (of_decide_eq_true hlk) (mc_set_tr E lo _ (.inr (some _))) (fun ls' hl' => k _ _ _ _ _ ⟨hl', hS, hV, h0, hce, hsl⟩)
  · simp only [mc_lenok, beq_iff_eq] at hlen; subst hlen
    cases hdo
    exact lv_astore hx hb hd hlv (of_decide_eq_true hlk) (mc_set_tr E lo _ (.inr (some _))) (fun ls' hl' => k _ _ _ _ _ ⟨hl', hS, hV, h0, hce, hsl⟩)
  -- iinc
  · simp only [mc_lenok, beq_iff_eq] at hlen; subst hlen
    split at hdo
    · rename_i x hg
      cases hdo
      obtain ⟨j, hj⟩ := List.getElem?_of_mem (List.mem_map.mpr ⟨_, mc_get_mem hg, rfl⟩ : (_, mc_tv E (.inl x)) ∈ mc_trl E lo)
      exact lv_iinc hx hb hd hlv hj rfl (of_decide_eq_true hlk) (mc_set_tr E lo _ (.inl _)) (fun ls' hl' => k _ _ _ _ _ ⟨hl', hS, hV, h0, hce, hsl⟩)
    · cases hdo
  -- arithmetic
  · simp only [mc_lenok, beq_iff_eq] at hlen; subst hlen
    cases hdo
    exact lv_iadd hx hb hd (k _ _ _ _ _ hrep)
  · simp only [mc_lenok, beq_iff_eq] at hlen; subst hlen
    cases hdo
    exact lv_isub hx hb hd (k _ _ _ _ _ hrep)
  · simp only [mc_lenok, beq_iff_eq] at hlen; subst hlen
    cases hdo
    exact lv_imul hx hb hd (k _ _ _ _ _ hrep)
  · simp only [mc_lenok, beq_iff_eq] at hlen; subst hlen
    cases hdo
    exact lv_iand hx hb hd (k _ _ _ _ _ hrep)
  · simp only [mc_lenok, beq_iff_eq] at hlen; subst hlen
    cases hdo
    exact lv_ior hx hb hd (k _ _ _ _ _ hrep)
  · simp only [mc_lenok, beq_iff_eq] at hlen; subst hlen
    cases hdo
    exact lv_ishl hx hb hd (k _ _ _ _ _ hrep)
  · simp only [mc_lenok, beq_iff_eq] at hlen; subst hlen
    cases hdo
    exact lv_ishr hx hb hd (k _ _ _ _ _ hrep)
  · simp only [mc_lenok, beq_iff_eq] at hlen; subst hlen
    cases hdo
    exact lv_iushr hx hb hd rfl (k _ _ _ _ _ hrep)
  · simp only [mc_lenok, beq_iff_eq] at hlen; subst hlen
    cases hdo
    exact lv_ineg hx hb hd (k _ _ _ _ _ hrep)
  -- goto
  · simp only [mc_lenok, beq_iff_eq] at hlen; subst hlen
    cases hdo
    exact lv_goto hx hb hd (of_decide_eq_true hlk) (k _ _ _ _ _ hrep)
  -- ifCond
  · simp only [mc_lenok, beq_iff_eq] at hlen; subst hlen
    cases hdo
    rename_i cd off x
    have hk0 := k H locs cells slots ls hrep
    cases cd with
    | eq => exact lv_if_eq hx hb hd (of_decide_eq_true hlk) (fun h => by simpa only [mc_jmp, if_pos h] using hk0) (fun h => by simpa only [mc_jmp, if_neg h] using hk0)
    | ne => exact lv_if_ne hx hb hd (of_decide_eq_true hlk) (fun h => by simpa only [mc_jmp, if_neg h] using hk0) (fun h => by simpa only [mc_jmp, if_pos h] using hk0)
    | lt => exact lv_if_lt hx hb hd (of_decide_eq_true hlk) (fun h => by simpa only [mc_jmp, if_pos h] using hk0) (fun h => by simpa only [mc_jmp, if_neg h] using hk0)
    | ge => exact lv_if_ge hx hb hd (of_decide_eq_true hlk) (fun h => by simpa only [mc_jmp, if_neg (Int32.not_lt.mpr h)] using hk0) (fun h => by simpa only [mc_jmp, if_pos (Int32.not_le.mp h)] using hk0)
    | gt => exact lv_if_gt hx hb hd (of_decide_eq_true hlk) (fun h => by simpa only [mc_jmp, if_pos h] using hk0) (fun h => by simpa only [mc_jmp, if_neg h] using hk0)
    | le => exact lv_if_le hx hb hd (of_decide_eq_true hlk) (fun h => by simpa only [mc_jmp, if_neg (Int32.not_lt.mpr h)] using hk0) (fun h => by simpa only [mc_jmp, if_pos (Int32.not_le.mp h)] using hk0)
  -- if_icmp
  · simp only [mc_lenok, beq_iff_eq] at hlen; subst hlen
    cases hdo
    rename_i cd off y x
    have hk0 := k H locs cells slots ls hrep
    cases cd with
    | eq => exact lv_icmp_eq hx hb hd (of_decide_eq_true hlk) (fun h => by simpa only [mc_jmp, if_pos h] using hk0) (fun h => by simpa only [mc_jmp, if_neg h] using hk0)
    | ne => exact lv_icmp_ne hx hb hd (of_decide_eq_true hlk) (fun h => by simpa only [mc_jmp, if_neg h] using hk0) (fun h => by simpa only [mc_jmp, if_pos h] using hk0)
    | lt => exact lv_icmp_lt hx hb hd (of_decide_eq_true hlk) (fun h => by simpa only [mc_jmp, if_pos h] using hk0) (fun h => by simpa only [mc_jmp, if_neg h] using hk0)
    | ge => exact lv_icmp_ge hx hb hd (of_decide_eq_true hlk) (fun h => by simpa only [mc_jmp, if_neg (Int32.not_lt.mpr h)] using hk0) (fun h => by simpa only [mc_jmp, if_pos (Int32.not_le.mp h)] using hk0)
    | gt => exact lv_icmp_gt hx hb hd (of_decide_eq_true hlk) (fun h => by simpa only [mc_jmp, if_pos h] using hk0) (fun h => by simpa only [mc_jmp, if_neg h] using hk0)
    | le => exact lv_icmp_le hx hb hd (of_decide_eq_true hlk) (fun h => by simpa only [mc_jmp, if_neg (Int32.not_lt.mpr h)] using hk0) (fun h => by simpa only [mc_jmp, if_pos (Int32.not_le.mp h)] using hk0)
  -- tableswitch
  · cases hdo
    rename_i d lo1 hi1 os x
    simp only [mc_link, Bool.and_eq_true, decide_eq_true_eq] at hlk
    obtain ⟨⟨hl1, hl2⟩, hl3⟩ := hlk
    by_cases hout : x.toInt < lo1 ∨ hi1 < x.toInt
    · rw [if_pos hout] at k
      exact lv_tableOut hx hb hd hout hl1 (k _ _ _ _ _ hrep)
    · rw [if_neg hout] at k
      have hj : (x.toInt - lo1).toNat < os.size := by omega
      have ht := List.all_eq_true.mp hl3 _ (List.mem_range.mpr hj)
      rw [decide_eq_true_eq] at ht
      refine lv_tableIn hx hb hd (fun h => hout (Or.inl h)) (fun h => hout (Or.inr h)) (off := os.getD (x.toInt - lo1).toNat 0) ?_ ht (k _ _ _ _ _ hrep)
      rw [Array.getD_eq_getD_getElem?, Array.getElem?_eq_getElem hj]; rfl
  -- dup, dup2
  · simp only [mc_lenok, beq_iff_eq] at hlen; subst hlen
    cases hdo
    exact lv_dup hx hb hd (mc_tv_cat E _) (k _ _ _ _ _ hrep)
  · simp only [mc_lenok, beq_iff_eq] at hlen; subst hlen
    cases hdo
    exact lv_dup2_11 hx hb hd (mc_tv_cat E _) (mc_tv_cat E _) (k _ _ _ _ _ hrep)
  -- arraylength
  · simp only [mc_lenok, beq_iff_eq] at hlen; subst hlen
    split at hdo
    · rename_i a _ hc
      cases hdo
      obtain ⟨hrd, h3⟩ := hc
      rcases mc_rd_cases hrd with hrd | rfl | rfl
      rotate_left
      · exact va_tlen hx hb (hU.2.1.2.narrow (fun _ h => mc_A_w h)) hV rfl hd (k _ _ _ _ _ hrep)
      · exact va_tlen hx hb (hU.2.2.1.2.narrow (fun _ h => mc_A_w h)) hV rfl hd (k _ _ _ _ _ hrep)
      have hat := hS.2.1 a hrd
      rcases (show (mc_ty a).1 = 0 ∨ (mc_ty a).1 = 1 ∨ (mc_ty a).1 = 2 by omega) with h | h | h
      · rw [mc_cell0 h] at hat
        exact va_alen hx hb hK (mc_one hat) 0 0 rfl rfl rfl hd (k _ _ _ _ _ hrep)
      · rw [mc_cell1 h] at hat
        exact va_alen hx hb hK (mc_one hat) 0 1 rfl rfl rfl hd (k _ _ _ _ _ hrep)
      · rw [mc_cell2 h] at hat
        exact va_alen hx hb hK (mc_one hat) 0 2 rfl rfl rfl hd (k _ _ _ _ _ hrep)
    · cases hdo
  -- array loads
  · simp only [mc_lenok, beq_iff_eq] at hlen; subst hlen
    split at hdo
    · rename_i j a _ hc
      cases hdo
      obtain ⟨hrd, h3, hin⟩ := hc
      rcases mc_rd_cases hrd with hrd | rfl | rfl
      rotate_left
      · have hlt : j.toNatClampNeg < 21 := Nat.not_le.mp fun q => mc_inb_in hin (Or.inr q)
        exact va_ti hx hb (hU.2.1.2.narrow (fun _ h => mc_A_w h)) hV (mc_inb_in hin) (congrArg Value.int (hS.2.2.2.1 _ hlt).symm) hd (k _ _ _ _ _ hrep)
      · have hlt : j.toNatClampNeg < 21 := Nat.not_le.mp fun q => mc_inb_in hin (Or.inr q)
        exact va_ti hx hb (hU.2.2.1.2.narrow (fun _ h => mc_A_w h)) hV (mc_inb_in hin) (congrArg Value.int (hS.2.2.2.2 _ hlt).symm) hd (k _ _ _ _ _ hrep)
      have hat := hS.2.1 a hrd
      rw [mc_cell0 h3] at hat
      exact va_iald hx hb hK (mc_one hat) 0 0 rfl rfl (mc_inb_in hin) hd (k _ _ _ _ _ hrep)
    · cases hdo
  · simp only [mc_lenok, beq_iff_eq] at hlen; subst hlen
    split at hdo
    · rename_i j a _ hc
      cases hdo
      obtain ⟨hrd, h3, hin⟩ := hc
      rcases mc_rd_cases hrd with hrd | rfl | rfl
      rotate_left
      · exact absurd h3 (by decide +kernel)
      · exact absurd h3 (by decide +kernel)
      have hat := hS.2.1 a hrd
      rw [mc_cell1 h3] at hat
      exact va_zald hx hb hK (mc_one hat) 0 1 rfl rfl (mc_inb_in hin) hd (k _ _ _ _ _ hrep)
    · cases hdo
  · simp only [mc_lenok, beq_iff_eq] at hlen; subst hlen
    split at hdo
    · rename_i j a _ hc
      cases hdo
      obtain ⟨hrd, h3, hin⟩ := hc
      rcases mc_rd_cases hrd with hrd | rfl | rfl
      rotate_left
      · exact absurd h3 (by decide +kernel)
      · exact absurd h3 (by decide +kernel)
      have hat := hS.2.1 a hrd
      rw [mc_cell2 h3] at hat
      exact va_aldq hx hb hK (mc_one hat) 0 2 rfl rfl (mc_inb_in hin) hd (k _ _ _ _ _ hrep)
    · cases hdo
  -- array stores
  · simp only [mc_lenok, beq_iff_eq] at hlen; subst hlen
    split at hdo
    · rename_i x j a _ hc
      cases hdo
      obtain ⟨ha, h3, hin⟩ := hc
      have hat := hS.2.1 a ha
      rw [mc_cell0 h3] at hat
      refine mc_iast hx hb hK hat (mc_adr_A hS (by first | assumption | omega)) hV 0 rfl (mc_inb_in hin) hd (fun H1 locs1 hat1 hz oq hV1 => k _ _ _ _ _ ⟨hlv, ?_, hV1, h0, hce, hsl⟩)
      refine hS.st ha ?_ hz oq (fun _ _ => rfl) (fun b hb => mc_upn _ _ _ hb)
      rw [mc_cell0 h3, mc_upa]
      exact hat1
    · cases hdo
  · simp only [mc_lenok, beq_iff_eq] at hlen; subst hlen
    split at hdo
    · rename_i x j a _ hc
      cases hdo
      obtain ⟨ha, h3, hin, hx01⟩ := hc
      have hat := hS.2.1 a ha
      rw [mc_cell1 h3] at hat
      refine mc_zast hx hb hK hat (mc_adr_A hS (by first | assumption | omega)) hV 1 rfl hx01 (mc_inb_in hin) hd (fun H1 locs1 hat1 hz oq hV1 => k _ _ _ _ _ ⟨hlv, ?_, hV1, h0, hce, hsl⟩)
      refine hS.st ha ?_ hz oq (fun _ _ => rfl) (fun b hb => mc_upn _ _ _ hb)
      rw [mc_cell1 h3, mc_upa]
      exact hat1
    · cases hdo
  · simp only [mc_lenok, beq_iff_eq] at hlen; subst hlen
    split at hdo
    · rename_i v j a _ hc
      cases hdo
      obtain ⟨ha, h3, hin, hv, h5⟩ := hc
      have hat := hS.2.1 a ha
      rw [mc_cell2 h3] at hat
      have hvt := hS.2.1 v hv
      rw [mc_cell3 (k := 2) h5] at hvt
      refine mc_astq (r := (RX0, TX0, 2)) hx hb hK hat (mc_adr_A hS (by first | assumption | omega)) hV 2 rfl hvt rfl (mc_inb_in hin) hd (fun H1 locs1 hat1 hz oq hV1 => k _ _ _ _ _ ⟨hlv, ?_, hV1, h0, hce, hsl⟩)
      refine hS.st ha ?_ hz oq (fun b hb => mc_upn _ _ _ hb) (fun _ _ => rfl)
      rw [mc_cell2 h3, mc_upa]
      have e1 : (fun i => Option.map (mc_adr E) (if i = j.toNatClampNeg then some v else M.2.1 a i)) = va_up (fun i => Option.map (mc_adr E) (M.2.1 a i)) j.toNatClampNeg (some (mc_adr E v)) := by
        funext i
        by_cases hi : i = j.toNatClampNeg <;> simp [va_up, hi]
      rw [e1]
      exact hat1
    · cases hdo
  -- getfield
  · simp only [mc_lenok, beq_iff_eq] at hlen; subst hlen
    split at hdo
    · rename_i x a _ hc
      cases hdo
      obtain ⟨ha, h3, hn⟩ := hc
      simp only [mc_link] at hlk
      split at hlk
      · rename_i q hq
        simp only [Bool.and_eq_true, decide_eq_true_eq] at hlk
        obtain ⟨⟨⟨h2, hkn⟩, hw⟩, hisr⟩ := hlk
        obtain ⟨hcw, -, -⟩ := mc_cls h2 hq
        have hat := hS.2.1 a ha
        rw [mc_cell3 h3] at hat
        refine va_get hx hb hts hcw hown hK (mc_one hat) 0 rfl hq (rr.getD 1 0) hkn (hts _ (mc_has_in hw)) (fun _ h => h) (mc_fs_get hn) hd ?_
        have hk0 := k _ _ _ _ _ hrep
        by_cases h22 : rr.getD 2 0 = 2
        · rw [if_pos h22] at hk0
          rw [hisr, if_pos (by simpa using h22)]
          exact hk0
        · rw [if_neg h22] at hk0
          rw [hisr, if_neg (by simpa using h22)]
          exact hk0
      · cases hlk
    · cases hdo
  -- putfield of a number
  · simp only [mc_lenok, beq_iff_eq] at hlen; subst hlen
    split at hdo
    · rename_i x a _ hc
      cases hdo
      obtain ⟨ha, h3, hn, hty⟩ := hc
      simp only [mc_link] at hlk
      split at hlk
      · rename_i q hq
        simp only [Bool.and_eq_true, decide_eq_true_eq, Bool.or_eq_true, Bool.not_eq_true'] at hlk
        obtain ⟨⟨⟨⟨⟨h2, hkn⟩, hw⟩, hisr⟩, hfk⟩, hfin⟩ := hlk
        obtain ⟨hcw, ⟨ty0, hty0, -⟩, hnames⟩ := mc_cls h2 hq
        have hat := hS.2.1 a ha
        rw [mc_cell3 h3] at hat
        have hi0 : mc_isr (rr.getD 0 0) (rr.getD 1 0) = false := by
          rw [hisr]; rcases hty with h | h
          · rw [h]; rfl
          · rw [h.1]; rfl
        have hpd : ∃ ty, parseFieldDescriptor (q.2.1 (rr.getD 1 0)).2.2.1 = some ty ∧ narrow ty (.int x) = .int x ∧ fits ty (.int x) = true := by
          rcases hty with h | ⟨h, h01⟩
          · exact ⟨.int, mc_fk0 (by rw [hfk, h]), rfl, rfl⟩
          · exact ⟨.boolean, mc_fk1 (by rw [hfk, h]), by rcases h01 with rfl | rfl <;> decide +kernel, by rcases h01 with rfl | rfl <;> decide +kernel⟩
        obtain ⟨ty, hpt, hnar, hfit⟩ := hpd
        refine mc_put hx hb hts hcw ty0 hty0 hnames hown hK hat (mc_adr_A hS (by first | assumption | omega)) hV hq (rr.getD 1 0) hkn (hts _ (mc_has_in hw)) ?_ hpt hnar hfit (by simpa [mc_fs] using hn) hd (fun H1 locs1 hat1 hz oq hV1 => k _ _ _ _ _ ⟨hlv, ?_, hV1, h0, hce, hsl⟩)
        · rcases hfin with h | h
          · exact Or.inl h
          · exact Or.inr ⟨hnm.trans h.1, h.2⟩
        · refine hS.st ha ?_ hz oq (fun _ _ => rfl) (fun b hb => mc_upn _ _ _ hb)
          rw [mc_cell3 h3, mc_upa, ← mc_fs_seti hi0]
          exact hat1
      · cases hlk
    · cases hdo
  -- putfield of a reference
  · simp only [mc_lenok, beq_iff_eq] at hlen; subst hlen
    split at hdo
    · rename_i v a _ hc
      cases hdo
      obtain ⟨ha, h3, hn, hty⟩ := hc
      simp only [mc_link] at hlk
      split at hlk
      · rename_i q hq
        simp only [Bool.and_eq_true, decide_eq_true_eq, Bool.or_eq_true, Bool.not_eq_true'] at hlk
        obtain ⟨⟨⟨⟨⟨h2, hkn⟩, hw⟩, hisr⟩, hfk⟩, hfin⟩ := hlk
        obtain ⟨hcw, ⟨ty0, hty0, -⟩, hnames⟩ := mc_cls h2 hq
        have hat := hS.2.1 a ha
        rw [mc_cell3 h3] at hat
        have hi0 : mc_isr (rr.getD 0 0) (rr.getD 1 0) = true := by
          rw [hisr, hty]; rfl
        have hpd : ∃ ty, parseFieldDescriptor (q.2.1 (rr.getD 1 0)).2.2.1 = some ty ∧ narrow ty (.ref (mc_adr E v)) = .ref (mc_adr E v) ∧ fits ty (.ref (mc_adr E v)) = true := by
          rcases mc_fk2 (hfk.trans hty) with ⟨n, h⟩ | ⟨n, h⟩
          · exact ⟨_, h, rfl, rfl⟩
          · exact ⟨_, h, rfl, rfl⟩
        obtain ⟨ty, hpt, hnar, hfit⟩ := hpd
        refine mc_put (v := .ref (mc_adr E v)) hx hb hts hcw ty0 hty0 hnames hown hK hat (mc_adr_A hS (by first | assumption | omega)) hV hq (rr.getD 1 0) hkn (hts _ (mc_has_in hw)) ?_ hpt hnar hfit (by simpa [mc_fs] using hn) hd (fun H1 locs1 hat1 hz oq hV1 => k _ _ _ _ _ ⟨hlv, ?_, hV1, h0, hce, hsl⟩)
        · rcases hfin with h | h
          · exact Or.inl h
          · exact Or.inr ⟨hnm.trans h.1, h.2⟩
        · refine hS.st ha ?_ hz oq (fun b hb => mc_upn _ _ _ hb) (fun _ _ => rfl)
          rw [mc_cell3 h3, mc_upa, ← mc_fs_setr hi0]
          exact hat1
      · cases hlk
    · cases hdo
  -- getstatic
  · simp only [mc_lenok, beq_iff_eq] at hlen; subst hlen
    cases hdo
    simp only [mc_link, Bool.or_eq_true, Bool.and_eq_true, decide_eq_true_eq] at hlk
    have hk0 := k _ _ _ _ _ hrep
    rcases hlk with ⟨h1, hw⟩ | ⟨h1, hw⟩
    · rw [h1] at hk0
      exact va_gets hx hb (hU.2.1.1.narrow (fun _ h => mc_A_w h)) hV hown (hts _ (mc_has_in hw)) (fun _ h => h) hd hk0
    · rw [h1] at hk0
      exact va_gets hx hb (hU.2.2.1.1.narrow (fun _ h => mc_A_w h)) hV hown (hts _ (mc_has_in hw)) (fun _ h => h) hd hk0
  -- new
  · simp only [mc_lenok, beq_iff_eq] at hlen; subst hlen
    split at hdo
    · rename_i hc
      cases hdo
      obtain ⟨hal, h3, h9⟩ := hc
      subst hal
      simp only [mc_link] at hlk
      split at hlk
      · rename_i q hq
        simp only [Bool.and_eq_true, decide_eq_true_eq] at hlk
        obtain ⟨⟨⟨h2, hw1⟩, hw2⟩, hw3⟩ := hlk
        obtain ⟨hcw, ⟨ty0, hty0, hdef⟩, hnames⟩ := mc_cls h2 hq
        have hn := mc_ty_n hq h3
        have hlt : rr.getD 0 0 < 15 := (List.getElem?_eq_some_iff.mp hq).1
        have hus := mc_us_succ (a := M.1) h9 (by rw [h3]; omega)
        have hKn := hK.1 _ _ hq
        have hm1 : mc_us (M.1 + 1) ≤ mc_us nF := mc_us_mono hF
        have hm2 : mc_us n0 ≤ mc_us M.1 := mc_us_mono h0
        have hF' : M.1 + 1 ≤ nF := hF
        subst hR
        refine W.newcK hx hb hown (hts _ (mc_has_in hw1)) (hts _ (mc_has_in hw2)) (hts _ (mc_has_in hw3)) rfl hd (by show cells + 1 ≤ nF - n0; omega) (by show slots + q.2.2 ≤ mc_us nF - mc_us n0; omega) hKn.2.1 rfl fun H1 kC hkC e1 z1 o1 => ?_
        have hborn : va_at E.1 vwCl (H.size, mc_cell E (mc_cl M.2.1 M.1 none) (mc_cl M.2.2 M.1 0) M.1) H1 := by
          rw [mc_cell3 h3, mc_cla, mc_cla, hn]
          refine ⟨_, hq, (u_born ty0 hts hcw hKn hkC e1 hty0).to (fun j hj => ?_)⟩
          exact (hdef j hj).trans (mc_fs_new hj).symm
        obtain ⟨hS1, ea⟩ := hS.nw h9 hborn z1 o1 (fun b hb => mc_cln _ _ hb) (fun b hb => mc_cln _ _ hb)
        have hk := k H1 locs (cells + 1) (slots + q.2.2) ls ⟨hlv, hS1, ⟨Nat.le_trans hV.1 (by omega), fun x h1 h2 => (o1 x (Nat.lt_of_lt_of_le h1 hV.1)).trans (hV.2.1 x h1 h2), hV.2.2⟩, by show n0 ≤ M.1 + 1; omega, by show cells + 1 = M.1 + 1 - n0; omega, by show slots + q.2.2 = mc_us (M.1 + 1) - mc_us n0; omega⟩
        have e2 : mc_tv E (.inr (some M.1)) = .ref H.size := by show Value.ref (mc_adr E M.1) = _; rw [ea]
        rw [List.map_cons, e2] at hk
        exact hk
      · cases hlk
    · cases hdo
  -- newarray int
  · simp only [mc_lenok, beq_iff_eq] at hlen; subst hlen
    split at hdo
    · rename_i n _ hc
      cases hdo
      obtain ⟨hal, h3, hn0, hn1, h9⟩ := hc
      subst hal
      have h30 : (mc_ty M.1).1 = 0 := by rw [h3]
      have h31 : (mc_ty M.1).2 = n.toNatClampNeg := by rw [h3]
      have hus := mc_us_succ (a := M.1) h9 (by rw [h30]; decide)
      have hm1 : mc_us (M.1 + 1) ≤ mc_us nF := mc_us_mono hF
      have hm2 : mc_us n0 ≤ mc_us M.1 := mc_us_mono h0
      have hF' : M.1 + 1 ≤ nF := hF
      subst hR
      refine va_newaK hx hb (hts _ (mc_has_in hlk)) rfl hd rfl hn0 rfl (by show n.toNatClampNeg * 4 ≤ _; omega) (by show cells + 1 ≤ nF - n0; omega) (by show slots + n.toNatClampNeg ≤ mc_us nF - mc_us n0; omega) rfl fun H1 cA e1 z1 o1 hAr hNm => ?_
      have hcA : cA = E.2.1.1 := Option.some.inj (hNm.symm.trans (hK.2 0 _ rfl).2)
      have hborn : va_at E.1 vwCl (H.size, mc_cell E (mc_cl M.2.1 M.1 none) (mc_cl M.2.2 M.1 0) M.1) H1 := by
        rw [mc_cell0 h30, mc_cla, h31]
        show H1[H.size]? = some (vp_cell _ _)
        rw [vp_cell_i, ← hcA]
        exact e1
      obtain ⟨hS1, ea⟩ := hS.nw h9 hborn z1 o1 (fun b hb => mc_cln _ _ hb) (fun b hb => mc_cln _ _ hb)
      have hk := k H1 locs (cells + 1) (slots + n.toNatClampNeg) ls ⟨hlv, hS1, ⟨Nat.le_trans hV.1 (by omega), fun x h1 h2 => (o1 x (Nat.lt_of_lt_of_le h1 hV.1)).trans (hV.2.1 x h1 h2), hV.2.2⟩, by show n0 ≤ M.1 + 1; omega, by show cells + 1 = M.1 + 1 - n0; omega, by show slots + n.toNatClampNeg = mc_us (M.1 + 1) - mc_us n0; omega⟩
      have e2 : mc_tv E (.inr (some M.1)) = .ref H.size := by show Value.ref (mc_adr E M.1) = _; rw [ea]
      rw [List.map_cons, e2] at hk
      exact hk
    · cases hdo
  -- newarray boolean
  · simp only [mc_lenok, beq_iff_eq] at hlen; subst hlen
    split at hdo
    · rename_i n _ hc
      cases hdo
      obtain ⟨hal, h3, hn0, hn1, h9⟩ := hc
      subst hal
      have h30 : (mc_ty M.1).1 = 1 := by rw [h3]
      have h31 : (mc_ty M.1).2 = n.toNatClampNeg := by rw [h3]
      have hus := mc_us_succ (a := M.1) h9 (by rw [h30]; decide)
      have hm1 : mc_us (M.1 + 1) ≤ mc_us nF := mc_us_mono hF
      have hm2 : mc_us n0 ≤ mc_us M.1 := mc_us_mono h0
      have hF' : M.1 + 1 ≤ nF := hF
      subst hR
      refine va_newaK hx hb (hts _ (mc_has_in hlk)) rfl hd rfl hn0 rfl (by show n.toNatClampNeg * 1 ≤ _; omega) (by show cells + 1 ≤ nF - n0; omega) (by show slots + n.toNatClampNeg ≤ mc_us nF - mc_us n0; omega) rfl fun H1 cA e1 z1 o1 hAr hNm => ?_
      have hcA : cA = E.2.1.2.1 := Option.some.inj (hNm.symm.trans (hK.2 1 _ rfl).2)
      have hborn : va_at E.1 vwCl (H.size, mc_cell E (mc_cl M.2.1 M.1 none) (mc_cl M.2.2 M.1 0) M.1) H1 := by
        rw [mc_cell1 h30, mc_cla, h31]
        show H1[H.size]? = some (vp_cell _ _)
        rw [vp_cell_i, ← hcA]
        exact e1
      obtain ⟨hS1, ea⟩ := hS.nw h9 hborn z1 o1 (fun b hb => mc_cln _ _ hb) (fun b hb => mc_cln _ _ hb)
      have hk := k H1 locs (cells + 1) (slots + n.toNatClampNeg) ls ⟨hlv, hS1, ⟨Nat.le_trans hV.1 (by omega), fun x h1 h2 => (o1 x (Nat.lt_of_lt_of_le h1 hV.1)).trans (hV.2.1 x h1 h2), hV.2.2⟩, by show n0 ≤ M.1 + 1; omega, by show cells + 1 = M.1 + 1 - n0; omega, by show slots + n.toNatClampNeg = mc_us (M.1 + 1) - mc_us n0; omega⟩
      have e2 : mc_tv E (.inr (some M.1)) = .ref H.size := by show Value.ref (mc_adr E M.1) = _; rw [ea]
      rw [List.map_cons, e2] at hk
      exact hk
    · cases hdo
  -- anewarray
  · simp only [mc_lenok, beq_iff_eq] at hlen; subst hlen
    split at hdo
    · rename_i n _ hc
      cases hdo
      obtain ⟨hal, h3, hn0, hn1, h9⟩ := hc
      subst hal
      have h30 : (mc_ty M.1).1 = 2 := by rw [h3]
      have h31 : (mc_ty M.1).2 = n.toNatClampNeg := by rw [h3]
      have hus := mc_us_succ (a := M.1) h9 (by rw [h30]; decide)
      have hm1 : mc_us (M.1 + 1) ≤ mc_us nF := mc_us_mono hF
      have hm2 : mc_us n0 ≤ mc_us M.1 := mc_us_mono h0
      have hF' : M.1 + 1 ≤ nF := hF
      subst hR
      refine W.anew hx hb hown (hts _ (mc_has_in hlk)) (va_AO.use hU.2.2.2.1) rfl hd rfl hn0 (by omega) (by show cells + 1 ≤ nF - n0; omega) (by show slots + n.toNatClampNeg ≤ mc_us nF - mc_us n0; omega) fun cA kA comp f1 f2 f3 f4 => ?_
      generalize hH1 : H.push ({ cls := cA, slots := Array.replicate n.toNatClampNeg .null, vm := .none } : Cell) = H1
      have z1 : H1.size = H.size + 1 := by rw [← hH1, Array.size_push]
      have e1 : H1[H.size]? = some (arrV cA n.toNatClampNeg (fun _ => .null)) := by rw [← hH1, Array.getElem?_push_size, ← arrV_new]
      have o1 : ∀ q : Nat, q < H.size → H1[q]? = H[q]? := fun q hq => by rw [← hH1, Array.getElem?_push, if_neg (Nat.ne_of_lt hq)]
      have hcA : cA = E.2.1.2.2 := by
        obtain ⟨_, _, -, -, -, hz⟩ := (hK.2 2 _ rfl).2
        exact Option.some.inj (f1.symm.trans hz)
      have hborn : va_at E.1 vwCl (H.size, mc_cell E (mc_cl M.2.1 M.1 none) (mc_cl M.2.2 M.1 0) M.1) H1 := by
        rw [mc_cell2 h30, mc_cla, h31]
        show H1[H.size]? = some (vp_cell _ _)
        rw [vp_cell_q, ← hcA]
        exact e1
      obtain ⟨hS1, ea⟩ := hS.nw h9 hborn z1 o1 (fun b hb => mc_cln _ _ hb) (fun b hb => mc_cln _ _ hb)
      have hk := k H1 locs (cells + 1) (slots + n.toNatClampNeg) ls ⟨hlv, hS1, ⟨Nat.le_trans hV.1 (by omega), fun x h1 h2 => (o1 x (Nat.lt_of_lt_of_le h1 hV.1)).trans (hV.2.1 x h1 h2), hV.2.2⟩, by show n0 ≤ M.1 + 1; omega, by show cells + 1 = M.1 + 1 - n0; omega, by show slots + n.toNatClampNeg = mc_us (M.1 + 1) - mc_us n0; omega⟩
      have e2 : mc_tv E (.inr (some M.1)) = .ref H.size := by show Value.ref (mc_adr E M.1) = _; rw [ea]
      rw [List.map_cons, e2] at hk
      exact hk
    · cases hdo
  -- invokevirtual: a call
  · split at hdo
    · split at hdo <;> cases hdo
    · cases hdo
  -- invokestatic
  · simp only [mc_lenok, beq_iff_eq] at hlen; subst hlen
    split at hdo
    · -- max
      rename_i h9
      simp only [mc_link, h9, if_true, Bool.and_eq_true, decide_eq_true_eq] at hlk
      obtain ⟨⟨⟨⟨⟨hw1, hw2⟩, hw3⟩, hw4⟩, hf1⟩, hf2⟩ := hlk
      split at hdo
      · split at hdo
        · rename_i h8
          cases hdo
          subst hR
          refine va_mmax hx hb (hml.trans hlv.1.symm) hown (hts _ (mc_has_in hw1)) (hts _ (mc_has_in hw2)) (hts _ (mc_has_in hw3)) (hts _ (mc_has_in hw4)) hf1 ?_ (by show cells ≤ nF - n0; omega) (by show slots ≤ mc_us nF - mc_us n0; have := mc_us_mono hF; omega) hd (k _ _ _ _ _ hrep)
          show _ + 13 ≤ mc_num t 1
          have := mc_catsum E (st := _) h8
          omega
        · cases hdo
      · cases hdo
    · split at hdo
      · -- min
        rename_i h99 h9
        simp only [mc_link, h9, if_true, Bool.and_eq_true, decide_eq_true_eq, show ¬ (9991 : Nat) = 9990 by decide, if_false] at hlk
        obtain ⟨⟨⟨⟨⟨hw1, hw2⟩, hw3⟩, hw4⟩, hf1⟩, hf2⟩ := hlk
        split at hdo
        · split at hdo
          · rename_i h8
            cases hdo
            subst hR
            refine va_mmin hx hb (hml.trans hlv.1.symm) hown (hts _ (mc_has_in hw1)) (hts _ (mc_has_in hw2)) (hts _ (mc_has_in hw3)) (hts _ (mc_has_in hw4)) hf1 ?_ (by show cells ≤ nF - n0; omega) (by show slots ≤ mc_us nF - mc_us n0; have := mc_us_mono hF; omega) hd (k _ _ _ _ _ hrep)
            show _ + 13 ≤ mc_num t 1
            have := mc_catsum E (st := _) h8
            omega
          · cases hdo
        · cases hdo
      · split at hdo
        · -- abs
          rename_i h97 h98 h9
          simp only [mc_link, h9, if_true, Bool.and_eq_true, decide_eq_true_eq, show ¬ (9992 : Nat) = 9990 by decide, show ¬ (9992 : Nat) = 9991 by decide, if_false] at hlk
          obtain ⟨⟨⟨⟨⟨hw1, hw2⟩, hw3⟩, hw4⟩, hf1⟩, hf2⟩ := hlk
          split at hdo
          · split at hdo
            · rename_i h8
              cases hdo
              subst hR
              refine va_mabs hx hb (hml.trans hlv.1.symm) hown (hts _ (mc_has_in hw1)) (hts _ (mc_has_in hw2)) (hts _ (mc_has_in hw3)) (hts _ (mc_has_in hw4)) hf1 ?_ (by show cells ≤ nF - n0; omega) (by show slots ≤ mc_us nF - mc_us n0; have := mc_us_mono hF; omega) hd (k _ _ _ _ _ hrep)
              show _ + 13 ≤ mc_num t 1
              have := mc_catsum E (st := _) h8
              omega
            · cases hdo
          · cases hdo
        · split at hdo
          · -- arraycopy
            rename_i h96 h97 h98 h9
            simp only [mc_link, h9, if_true, Bool.and_eq_true, decide_eq_true_eq, show ¬ (9999 : Nat) = 9990 by decide, show ¬ (9999 : Nat) = 9991 by decide, show ¬ (9999 : Nat) = 9992 by decide, if_false] at hlk
            obtain ⟨⟨⟨⟨⟨hw1, hw2⟩, hw3⟩, hw4⟩, hf1⟩, hf2⟩ := hlk
            split at hdo
            · rename_i n dp d sp q
              split at hdo
              · rename_i hc
                cases hdo
                obtain ⟨hal, hdl, hql, hd0, hq0, g1, g2, g3, g4, g5⟩ := hc
                subst hal
                subst hR
                have a0 := mc_wl_get (E := E) (M := M) hql
                rw [mc_cell0 hq0] at a0
                have a1 := mc_wl_get (E := E) (M := M) hdl
                rw [mc_cell0 hd0] at a1
                refine va_copyi (rest := []) hx hb (hml.trans hlv.1.symm) hown (hts _ (mc_has_in hw1)) (hts _ (mc_has_in hw2)) (hts _ (mc_has_in hw3)) (hts _ (mc_has_in hw4)) hK (mc_wl_P hS) (mc_wl_D hS) hV q d 0 0 a0 a1 rfl rfl rfl g1 g2 g3 g4 g5 (fun _ _ => rfl) hf1 ?_ hd (fun H1 locs1 hP1 _ hV1 => k _ _ _ _ _ ⟨hlv, ?_, hV1, h0, hce, hsl⟩)
                · show 0 + _ ≤ mc_num t 1
                  omega
                · exact hS.cp hU.2.2.2.2 hV hV1 hdl hd0 hP1
              · cases hdo
            · cases hdo
          · split at hdo <;> cases hdo
  -- invokespecial
  · simp only [mc_lenok, beq_iff_eq] at hlen; subst hlen
    split at hdo
    · rename_i h9
      simp only [mc_link, h9, if_true, Bool.and_eq_true, decide_eq_true_eq] at hlk
      obtain ⟨⟨⟨⟨hw1, hw2⟩, hw3⟩, hf1⟩, hf2⟩ := hlk
      split at hdo
      · cases hdo
        subst hR
        refine W.objInit hx hb hown (hts _ (mc_has_in hw1)) (hts _ (mc_has_in hw2)) (hts _ (mc_has_in hw3)) rfl (hlv.1.trans hml.symm) rfl hd hf1 ?_ (k _ _ _ _ _ hrep)
        show 2 * 0 + 0 + 12 ≤ mc_num t 1
        omega
      · cases hdo
    · split at hdo
      · split at hdo <;> cases hdo
      · cases hdo
  · split at hdo <;> cases hdo
  · cases hdo
  · cases hdo
  · cases hdo
end MSIM

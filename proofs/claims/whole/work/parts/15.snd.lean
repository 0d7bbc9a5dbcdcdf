set_option maxRecDepth 100000 in
/-- THE SMALL MACHINE IS THE MACHINE: from every place of a method from which it comes to an end, the machine comes to that end -/
theorem mc_sound (l : Launch) (E : mc_H) (al : Bool) : ∀ (n : Nat) (y pc : Nat) (lo : List (Nat × mc_V)) (st : List mc_V) (M : mc_M) (r : Option mc_V × mc_M), mc_ev al n y pc lo st M = some r → ∀ (t : mc_T), mc_tab[y]? = some t →
    ∀ (p : Program) (e : Env) (s : State) (m : MethodId) (args : Array Value) (below : List Frame) (meth : Method) (c : Code), mc_Cx E t p s m args meth c → ∀ (n0 : Nat) (H : Heap) (locs : List Loc) (cells slots : Nat) (ls : Array Slot), mc_Rep E al t n0 s lo M H locs cells slots ls →
    W p l e (mc_rm t n0 r.2.1) s m args below meth c H locs cells slots (MQ below (mc_Qc E al r) args s (r.2.1 - n0) (mc_us r.2.1 - mc_us n0) (mc_A E al)) (F0 m pc ls (st.map (mc_tv E))) := by
  intro n
  induction n with
  | zero => intro y pc lo st M r h; simp [mc_ev] at h
  | succ n ih =>
    intro y pc lo st M r h t ht p e s m args below meth c C n0 H locs cells slots ls hr
    have hmem := List.mem_of_getElem? ht
    obtain ⟨hall, hown⟩ := ck_all t hmem
    have hcd : mc_code y = t.2.2.2.2.2 := by unfold mc_code; rw [ht]
    simp only [mc_ev] at h
    cases hs : mc_stp al (mc_code y) pc lo st M with
    | none => rw [hs] at h; simp at h
    | some q =>
      rw [hs] at h
      have hs' := hs
      unfold mc_stp at hs'
      rw [hcd] at hs'
      split at hs'
      · cases hs'
      · rename_i i len rr hfind
        have hck : mc_chk t (pc, i, len, rr) = true := List.all_eq_true.mp hall _ (mc_find_mem hfind)
        rcases q with q | q | q
        · obtain ⟨pc', lo', st', M'⟩ := q
          exact mc_sim C hck hs' rfl (mc_mono al n _ _ _ _ _ _ h) hr (fun H' locs' cells' slots' ls' hr' => ih _ _ _ _ _ _ h t ht p e s m args below meth c C n0 H' locs' cells' slots' ls' hr')
        · cases h
          exact mc_simr C hck hs' hr
        · obtain ⟨y', as, rest⟩ := q
          simp only at h
          cases hc : mc_ev al n y' 0 (mc_lo 0 as) [] M with
          | none => rw [hc] at h; simp at h
          | some z =>
            rw [hc] at h
            simp only at h
            cases hu : mc_tab[y']? with
            | none =>
              exfalso
              cases n with
              | zero => simp [mc_ev] at hc
              | succ n =>
                have hcd' : mc_code y' = [] := by unfold mc_code; rw [hu]
                simp [mc_ev, mc_stp, hcd', mc_find] at hc
            | some u =>
              obtain ⟨-, hou⟩ := ck_all u (List.mem_of_getElem? hu)
              exact mc_simc C hck hs' hu hou (fun hna => mc_met_of hou hna (fun p e s m args below meth c C' H locs cells slots ls hr' => ih _ _ _ _ _ _ hc u hu p e s m args below meth c C' M.1 H locs cells slots ls hr')) rfl (mc_mono al n _ _ _ _ _ _ hc) (mc_mono al n _ _ _ _ _ _ h) hr (fun H' locs' cells' slots' hr' => ih _ _ _ _ _ _ h t ht p e s m args below meth c C n0 H' locs' cells' slots' ls hr')
/-- a method's contract, out of a run of the small machine -/
theorem mc_met (l : Launch) (E : mc_H) (al : Bool) {y : Nat} {u : mc_T} {as : List mc_V} {M : mc_M} {z : Option mc_V × mc_M} (hu : mc_tab[y]? = some u) (hna : as.length ≤ u.2.2.1) (h : mc_E al y 0 (mc_lo 0 as) [] M z) :
    Met l u.1 (mc_wds u) (mc_rm u M.1 z.2.1) (mc_Pc E al as M) (mc_Qc E al z) (z.2.1 - M.1) (mc_us z.2.1 - mc_us M.1) (mc_A E al) := by
  obtain ⟨n, hn⟩ := h
  exact mc_met_of (ck_all u (List.mem_of_getElem? hu)).2 hna (fun p e s m args below meth c C H locs cells slots ls hr => mc_sound l E al n y 0 _ [] M z hn u hu p e s m args below meth c C M.1 H locs cells slots ls hr)

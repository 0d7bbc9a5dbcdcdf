theorem up_20 {σ : mc_G} {v : Int32} {q : Nat} (h : v = nI q) : mc_up σ 167 20 v 167 20 = nI q := by rw [upj, if_pos rfl]; exact h
theorem soH {c : cS} {p q : Nat} {σ σ' : mc_G} (h : mHd c σ) (hA : arP 181 (8 + c.1) (soA c p q).2 σ') (ho : mo [181] [] σ σ') : mHd (soA c p q) σ' := by
  unfold mHd
  rw [soA_1]
  exact ⟨by rw [ho.2 20 (by decide)]; exact h.1, h.2.1, hA⟩
theorem slH {c : cS} {p : Nat} {σ σ' : mc_G} (h : mHd c σ) (hA : arP 181 (8 + c.1) (slA c p).2 σ') (ho : mo [181] [] σ σ') : mHd (slA c p) σ' := by
  unfold mHd
  rw [slA_1]
  exact ⟨by rw [ho.2 20 (by decide)]; exact h.1, h.2.1, hA⟩
set_option maxRecDepth 100000 in
theorem sX12_work_0 {P : pT} {T : tT} {c : cS} {σ : mc_G} (hC : mHd c σ) (hP : cMP P σ) (hN : pNum P) (hY : pTy P T) (hO : tOk T) {x : Int32} {i : Nat} (hx : x = nI i) (hi : i < pn P) (hn : pn P ≤ 30) (hg : gC P T c) (hsu : suA T (opA P i) (nuN P i) c = true) (ho : opA P i = 0) (htk : tkA 0 ≤ c.1) (hfi : c.1 - tkA 0 + gvA 0 ≤ 6) : Wp miX12_work 0 [(0, .inr (some 167)), (1, .inl x)] [] σ (fun rv σ' => rv = none ∧ mHd (wkA (opA P i) (nuN P i) i (tyA P c) c) σ' ∧ mo [181] [20] σ σ') := by
  have h6 := hC.2.1
  have hnu := fun q => hN.1 i q
  have hn7 := fun q => hN.2.1 i q
  have hty := fun q => hY.1 i q
  have h13 := fun q => gC_13 hY hO hg (k := i) q hsu
  rw [ho] at hnu hn7 hty h13 hsu ⊢
  have htk : 0 ≤ c.1 := htk
  have hfi : c.1 - 0 + 1 ≤ 6 := hfi
  have m0 := mtp_lt hC 0
  have h8 := hO.2.1
  iterate 3 refine Wp.go rfl ?_
  refine Wp.go (if_pos ⟨rfl, rfl, (inE (n := 30) hx (by first | omega | (have := (hnu (by omega)).2; omega) | (have := hn7 (by omega); omega)))⟩) ?_
  iterate 4 refine Wp.go rfl ?_
  refine Wp.go (if_pos ⟨rfl, rfl, (inE (n := 30) hx (by first | omega | (have := (hnu (by omega)).2; omega) | (have := hn7 (by omega); omega)))⟩) ?_
  iterate 4 refine Wp.go rfl ?_
  refine Wp.neN (a := 0) (b := 3) (rdE hx (by first | omega | (have := (hnu (by omega)).2; omega) | (have := hn7 (by omega); omega)) (((hP.o (cs := [181]) (fs := [20]) (mo.rf)).op (by omega)).trans (congrArg nI ho))) (rfl : _ = nI 3) (by decide) (by decide) (fun _ => ?_) (fun q => absurd q (by decide))
  iterate 3 refine Wp.go rfl ?_
  refine Wp.eqN (a := 0) (b := 5) (rdE hx (by first | omega | (have := (hnu (by omega)).2; omega) | (have := hn7 (by omega); omega)) (((hP.o (cs := [181]) (fs := [20]) (mo.rf)).op (by omega)).trans (congrArg nI ho))) (rfl : _ = nI 5) (by decide) (by decide) (fun q => absurd q (by decide)) (fun _ => ?_)
  iterate 3 refine Wp.go rfl ?_
  refine Wp.eqN (a := 0) (b := 9) (rdE hx (by first | omega | (have := (hnu (by omega)).2; omega) | (have := hn7 (by omega); omega)) (((hP.o (cs := [181]) (fs := [20]) (mo.rf)).op (by omega)).trans (congrArg nI ho))) (rfl : _ = nI 9) (by decide) (by decide) (fun q => absurd q (by decide)) (fun _ => ?_)
  iterate 3 refine Wp.go rfl ?_
  refine Wp.neN (a := 0) (b := 13) (rdE hx (by first | omega | (have := (hnu (by omega)).2; omega) | (have := hn7 (by omega); omega)) (((hP.o (cs := [181]) (fs := [20]) (mo.rf)).op (by omega)).trans (congrArg nI ho))) (rfl : _ = nI 13) (by decide) (by decide) (fun _ => ?_) (fun q => absurd q (by decide))
  iterate 5 refine Wp.go rfl ?_
  refine Wp.neN (a := 0) (b := 12) (rdE hx (by first | omega | (have := (hnu (by omega)).2; omega) | (have := hn7 (by omega); omega)) (((hP.o (cs := [181]) (fs := [20]) (mo.rf)).op (by omega)).trans (congrArg nI ho))) (rfl : _ = nI 12) (by decide) (by decide) (fun _ => ?_) (fun q => absurd q (by decide))
  iterate 4 refine Wp.go rfl ?_
  refine Wp.call rfl cqX12_takes (sX12_takes (rdE hx (by first | omega | (have := (hnu (by omega)).2; omega) | (have := hn7 (by omega); omega)) (((hP.o (cs := [181]) (fs := [20]) (mo.rf)).op (by omega)).trans (congrArg nI ho))) (by decide)) (fun rv1 s1 hq1 => ?_)
  obtain ⟨rfl, hq1⟩ := hq1
  replace hq1 := hq1.symm
  subst hq1
  refine Wp.go rfl ?_
  refine Wp.go rfl ?_
  iterate 2 refine Wp.go rfl ?_
  refine Wp.swI 0 (rdE hx (by first | omega | (have := (hnu (by omega)).2; omega) | (have := hn7 (by omega); omega)) (((hP.o (cs := [181]) (fs := [20]) (mo.rf)).op (by omega)).trans (congrArg nI ho))) (by decide) (by decide) (by decide) ?_
  iterate 2 refine Wp.go rfl ?_
  refine Wp.call rfl cqX12_push (sX12_push (c := drA c 0) ((hC).h (nE_sub (hC).1 rfl (by first | omega | (have := (hnu (by omega)).2; omega) | (have := hn7 (by omega); omega))) (by first | omega | exact Nat.sub_le _ _)) (q := 1) (by first | (show c.1 - 0 < 6; omega) | (rw [psA_1 (by show c.1 - 0 < 6; omega)]; show c.1 - 0 + 1 < 6; omega)) (rfl : _ = nI 1) (by first | omega | (have := (hnu (by omega)).2; omega) | (have := hn7 (by omega); omega))) (fun rv2 s2 hq2 => ?_)
  obtain ⟨rfl, hC2, ho2⟩ := hq2
  refine Wp.go rfl ?_
  refine Wp.ret rfl ?_
  refine ⟨rfl, ?_, ((mo.rf).tr (mo.f (c := 20) _ (by decide) _)).tr (ho2.wi (by decide) (by decide))⟩
  rw [wk0]
  exact hC2
set_option maxRecDepth 100000 in
theorem sX12_work_1 {P : pT} {T : tT} {c : cS} {σ : mc_G} (hC : mHd c σ) (hP : cMP P σ) (hN : pNum P) (hY : pTy P T) (hO : tOk T) {x : Int32} {i : Nat} (hx : x = nI i) (hi : i < pn P) (hn : pn P ≤ 30) (hg : gC P T c) (hsu : suA T (opA P i) (nuN P i) c = true) (ho : opA P i = 1) (htk : tkA 1 ≤ c.1) (hfi : c.1 - tkA 1 + gvA 1 ≤ 6) : Wp miX12_work 0 [(0, .inr (some 167)), (1, .inl x)] [] σ (fun rv σ' => rv = none ∧ mHd (wkA (opA P i) (nuN P i) i (tyA P c) c) σ' ∧ mo [181] [20] σ σ') := by
  have h6 := hC.2.1
  have hnu := fun q => hN.1 i q
  have hn7 := fun q => hN.2.1 i q
  have hty := fun q => hY.1 i q
  have h13 := fun q => gC_13 hY hO hg (k := i) q hsu
  rw [ho] at hnu hn7 hty h13 hsu ⊢
  have htk : 0 ≤ c.1 := htk
  have hfi : c.1 - 0 + 2 ≤ 6 := hfi
  have m0 := mtp_lt hC 0
  have h8 := hO.2.1
  iterate 3 refine Wp.go rfl ?_
  refine Wp.go (if_pos ⟨rfl, rfl, (inE (n := 30) hx (by first | omega | (have := (hnu (by omega)).2; omega) | (have := hn7 (by omega); omega)))⟩) ?_
  iterate 4 refine Wp.go rfl ?_
  refine Wp.go (if_pos ⟨rfl, rfl, (inE (n := 30) hx (by first | omega | (have := (hnu (by omega)).2; omega) | (have := hn7 (by omega); omega)))⟩) ?_
  iterate 4 refine Wp.go rfl ?_
  refine Wp.neN (a := 1) (b := 3) (rdE hx (by first | omega | (have := (hnu (by omega)).2; omega) | (have := hn7 (by omega); omega)) (((hP.o (cs := [181]) (fs := [20]) (mo.rf)).op (by omega)).trans (congrArg nI ho))) (rfl : _ = nI 3) (by decide) (by decide) (fun _ => ?_) (fun q => absurd q (by decide))
  iterate 3 refine Wp.go rfl ?_
  refine Wp.eqN (a := 1) (b := 5) (rdE hx (by first | omega | (have := (hnu (by omega)).2; omega) | (have := hn7 (by omega); omega)) (((hP.o (cs := [181]) (fs := [20]) (mo.rf)).op (by omega)).trans (congrArg nI ho))) (rfl : _ = nI 5) (by decide) (by decide) (fun q => absurd q (by decide)) (fun _ => ?_)
  iterate 3 refine Wp.go rfl ?_
  refine Wp.eqN (a := 1) (b := 9) (rdE hx (by first | omega | (have := (hnu (by omega)).2; omega) | (have := hn7 (by omega); omega)) (((hP.o (cs := [181]) (fs := [20]) (mo.rf)).op (by omega)).trans (congrArg nI ho))) (rfl : _ = nI 9) (by decide) (by decide) (fun q => absurd q (by decide)) (fun _ => ?_)
  iterate 3 refine Wp.go rfl ?_
  refine Wp.neN (a := 1) (b := 13) (rdE hx (by first | omega | (have := (hnu (by omega)).2; omega) | (have := hn7 (by omega); omega)) (((hP.o (cs := [181]) (fs := [20]) (mo.rf)).op (by omega)).trans (congrArg nI ho))) (rfl : _ = nI 13) (by decide) (by decide) (fun _ => ?_) (fun q => absurd q (by decide))
  iterate 5 refine Wp.go rfl ?_
  refine Wp.neN (a := 1) (b := 12) (rdE hx (by first | omega | (have := (hnu (by omega)).2; omega) | (have := hn7 (by omega); omega)) (((hP.o (cs := [181]) (fs := [20]) (mo.rf)).op (by omega)).trans (congrArg nI ho))) (rfl : _ = nI 12) (by decide) (by decide) (fun _ => ?_) (fun q => absurd q (by decide))
  iterate 4 refine Wp.go rfl ?_
  refine Wp.call rfl cqX12_takes (sX12_takes (rdE hx (by first | omega | (have := (hnu (by omega)).2; omega) | (have := hn7 (by omega); omega)) (((hP.o (cs := [181]) (fs := [20]) (mo.rf)).op (by omega)).trans (congrArg nI ho))) (by decide)) (fun rv1 s1 hq1 => ?_)
  obtain ⟨rfl, hq1⟩ := hq1
  replace hq1 := hq1.symm
  subst hq1
  refine Wp.go rfl ?_
  refine Wp.go rfl ?_
  iterate 2 refine Wp.go rfl ?_
  refine Wp.swI 1 (rdE hx (by first | omega | (have := (hnu (by omega)).2; omega) | (have := hn7 (by omega); omega)) (((hP.o (cs := [181]) (fs := [20]) (mo.rf)).op (by omega)).trans (congrArg nI ho))) (by decide) (by decide) (by decide) ?_
  refine Wp.go rfl ?_
  refine Wp.call rfl cqX12_pushLong (sX12_pushLong (c := drA c 0) ((hC).h (nE_sub (hC).1 rfl (by first | omega | (have := (hnu (by omega)).2; omega) | (have := hn7 (by omega); omega))) (by first | omega | exact Nat.sub_le _ _)) (by show c.1 - 0 ≤ 4; omega)) (fun rv2 s2 hq2 => ?_)
  obtain ⟨rfl, hC2, ho2⟩ := hq2
  refine Wp.go rfl ?_
  refine Wp.ret rfl ?_
  refine ⟨rfl, ?_, ((mo.rf).tr (mo.f (c := 20) _ (by decide) _)).tr (ho2.wi (by decide) (by decide))⟩
  rw [wk1]
  exact hC2
set_option maxRecDepth 100000 in
theorem sX12_work_2 {P : pT} {T : tT} {c : cS} {σ : mc_G} (hC : mHd c σ) (hP : cMP P σ) (hN : pNum P) (hY : pTy P T) (hO : tOk T) {x : Int32} {i : Nat} (hx : x = nI i) (hi : i < pn P) (hn : pn P ≤ 30) (hg : gC P T c) (hsu : suA T (opA P i) (nuN P i) c = true) (ho : opA P i = 2) (htk : tkA 2 ≤ c.1) (hfi : c.1 - tkA 2 + gvA 2 ≤ 6) : Wp miX12_work 0 [(0, .inr (some 167)), (1, .inl x)] [] σ (fun rv σ' => rv = none ∧ mHd (wkA (opA P i) (nuN P i) i (tyA P c) c) σ' ∧ mo [181] [20] σ σ') := by
  have h6 := hC.2.1
  have hnu := fun q => hN.1 i q
  have hn7 := fun q => hN.2.1 i q
  have hty := fun q => hY.1 i q
  have h13 := fun q => gC_13 hY hO hg (k := i) q hsu
  rw [ho] at hnu hn7 hty h13 hsu ⊢
  have htk : 0 ≤ c.1 := htk
  have hfi : c.1 - 0 + 1 ≤ 6 := hfi
  have m0 := mtp_lt hC 0
  have h8 := hO.2.1
  iterate 3 refine Wp.go rfl ?_
  refine Wp.go (if_pos ⟨rfl, rfl, (inE (n := 30) hx (by first | omega | (have := (hnu (by omega)).2; omega) | (have := hn7 (by omega); omega)))⟩) ?_
  iterate 4 refine Wp.go rfl ?_
  refine Wp.go (if_pos ⟨rfl, rfl, (inE (n := 30) hx (by first | omega | (have := (hnu (by omega)).2; omega) | (have := hn7 (by omega); omega)))⟩) ?_
  iterate 4 refine Wp.go rfl ?_
  refine Wp.neN (a := 2) (b := 3) (rdE hx (by first | omega | (have := (hnu (by omega)).2; omega) | (have := hn7 (by omega); omega)) (((hP.o (cs := [181]) (fs := [20]) (mo.rf)).op (by omega)).trans (congrArg nI ho))) (rfl : _ = nI 3) (by decide) (by decide) (fun _ => ?_) (fun q => absurd q (by decide))
  iterate 3 refine Wp.go rfl ?_
  refine Wp.eqN (a := 2) (b := 5) (rdE hx (by first | omega | (have := (hnu (by omega)).2; omega) | (have := hn7 (by omega); omega)) (((hP.o (cs := [181]) (fs := [20]) (mo.rf)).op (by omega)).trans (congrArg nI ho))) (rfl : _ = nI 5) (by decide) (by decide) (fun q => absurd q (by decide)) (fun _ => ?_)
  iterate 3 refine Wp.go rfl ?_
  refine Wp.eqN (a := 2) (b := 9) (rdE hx (by first | omega | (have := (hnu (by omega)).2; omega) | (have := hn7 (by omega); omega)) (((hP.o (cs := [181]) (fs := [20]) (mo.rf)).op (by omega)).trans (congrArg nI ho))) (rfl : _ = nI 9) (by decide) (by decide) (fun q => absurd q (by decide)) (fun _ => ?_)
  iterate 3 refine Wp.go rfl ?_
  refine Wp.neN (a := 2) (b := 13) (rdE hx (by first | omega | (have := (hnu (by omega)).2; omega) | (have := hn7 (by omega); omega)) (((hP.o (cs := [181]) (fs := [20]) (mo.rf)).op (by omega)).trans (congrArg nI ho))) (rfl : _ = nI 13) (by decide) (by decide) (fun _ => ?_) (fun q => absurd q (by decide))
  iterate 5 refine Wp.go rfl ?_
  refine Wp.neN (a := 2) (b := 12) (rdE hx (by first | omega | (have := (hnu (by omega)).2; omega) | (have := hn7 (by omega); omega)) (((hP.o (cs := [181]) (fs := [20]) (mo.rf)).op (by omega)).trans (congrArg nI ho))) (rfl : _ = nI 12) (by decide) (by decide) (fun _ => ?_) (fun q => absurd q (by decide))
  iterate 4 refine Wp.go rfl ?_
  refine Wp.call rfl cqX12_takes (sX12_takes (rdE hx (by first | omega | (have := (hnu (by omega)).2; omega) | (have := hn7 (by omega); omega)) (((hP.o (cs := [181]) (fs := [20]) (mo.rf)).op (by omega)).trans (congrArg nI ho))) (by decide)) (fun rv1 s1 hq1 => ?_)
  obtain ⟨rfl, hq1⟩ := hq1
  replace hq1 := hq1.symm
  subst hq1
  refine Wp.go rfl ?_
  refine Wp.go rfl ?_
  iterate 2 refine Wp.go rfl ?_
  refine Wp.swI 2 (rdE hx (by first | omega | (have := (hnu (by omega)).2; omega) | (have := hn7 (by omega); omega)) (((hP.o (cs := [181]) (fs := [20]) (mo.rf)).op (by omega)).trans (congrArg nI ho))) (by decide) (by decide) (by decide) ?_
  iterate 2 refine Wp.go rfl ?_
  refine Wp.call rfl cqX12_push (sX12_push (c := drA c 0) ((hC).h (nE_sub (hC).1 rfl (by first | omega | (have := (hnu (by omega)).2; omega) | (have := hn7 (by omega); omega))) (by first | omega | exact Nat.sub_le _ _)) (q := 4) (by first | (show c.1 - 0 < 6; omega) | (rw [psA_1 (by show c.1 - 0 < 6; omega)]; show c.1 - 0 + 1 < 6; omega)) (rfl : _ = nI 4) (by first | omega | (have := (hnu (by omega)).2; omega) | (have := hn7 (by omega); omega))) (fun rv2 s2 hq2 => ?_)
  obtain ⟨rfl, hC2, ho2⟩ := hq2
  refine Wp.go rfl ?_
  refine Wp.ret rfl ?_
  refine ⟨rfl, ?_, ((mo.rf).tr (mo.f (c := 20) _ (by decide) _)).tr (ho2.wi (by decide) (by decide))⟩
  rw [wk2]
  exact hC2
set_option maxRecDepth 100000 in
theorem sX12_work_3 {P : pT} {T : tT} {c : cS} {σ : mc_G} (hC : mHd c σ) (hP : cMP P σ) (hN : pNum P) (hY : pTy P T) (hO : tOk T) {x : Int32} {i : Nat} (hx : x = nI i) (hi : i < pn P) (hn : pn P ≤ 30) (hg : gC P T c) (hsu : suA T (opA P i) (nuN P i) c = true) (ho : opA P i = 3) (htk : tkA 3 ≤ c.1) (hfi : c.1 - tkA 3 + gvA 3 ≤ 6) : Wp miX12_work 0 [(0, .inr (some 167)), (1, .inl x)] [] σ (fun rv σ' => rv = none ∧ mHd (wkA (opA P i) (nuN P i) i (tyA P c) c) σ' ∧ mo [181] [20] σ σ') := by
  have h6 := hC.2.1
  have hnu := fun q => hN.1 i q
  have hn7 := fun q => hN.2.1 i q
  have hty := fun q => hY.1 i q
  have h13 := fun q => gC_13 hY hO hg (k := i) q hsu
  rw [ho] at hnu hn7 hty h13 hsu ⊢
  have htk : 0 ≤ c.1 := htk
  have hfi : c.1 - 0 + 1 ≤ 6 := hfi
  have m0 := mtp_lt hC 0
  have h8 := hO.2.1
  iterate 3 refine Wp.go rfl ?_
  refine Wp.go (if_pos ⟨rfl, rfl, (inE (n := 30) hx (by first | omega | (have := (hnu (by omega)).2; omega) | exact (hC.2.2 (nuN P i) (by have := (hnu (by omega)).2; omega)).2))⟩) ?_
  iterate 4 refine Wp.go rfl ?_
  refine Wp.go (if_pos ⟨rfl, rfl, (inE (n := 30) hx (by first | omega | (have := (hnu (by omega)).2; omega) | exact (hC.2.2 (nuN P i) (by have := (hnu (by omega)).2; omega)).2))⟩) ?_
  iterate 4 refine Wp.go rfl ?_
  refine Wp.neN (a := 3) (b := 3) (rdE hx (by first | omega | (have := (hnu (by omega)).2; omega) | exact (hC.2.2 (nuN P i) (by have := (hnu (by omega)).2; omega)).2) (((hP.o (cs := [181]) (fs := [20]) (mo.rf)).op (by omega)).trans (congrArg nI ho))) (rfl : _ = nI 3) (by decide) (by decide) (fun q => absurd q (by decide)) (fun _ => ?_)
  iterate 3 refine Wp.go rfl ?_
  refine Wp.go (if_pos ⟨rfl, rfl, (inE (n := 14) (rdE hx (by first | omega | (have := (hnu (by omega)).2; omega) | exact (hC.2.2 (nuN P i) (by have := (hnu (by omega)).2; omega)).2) (((hP.o (cs := [181]) (fs := [20]) (mo.rf)).nu (by omega)).trans (hnu (by omega)).1)) (by first | omega | (have := (hnu (by omega)).2; omega) | exact (hC.2.2 (nuN P i) (by have := (hnu (by omega)).2; omega)).2))⟩) ?_
  iterate 5 refine Wp.go rfl ?_
  refine Wp.neN (a := 3) (b := 12) (rdE hx (by first | omega | (have := (hnu (by omega)).2; omega) | exact (hC.2.2 (nuN P i) (by have := (hnu (by omega)).2; omega)).2) (((hP.o (cs := [181]) (fs := [20]) (mo.rf)).op (by omega)).trans (congrArg nI ho))) (rfl : _ = nI 12) (by decide) (by decide) (fun _ => ?_) (fun q => absurd q (by decide))
  iterate 4 refine Wp.go rfl ?_
  refine Wp.call rfl cqX12_takes (sX12_takes (rdE hx (by first | omega | (have := (hnu (by omega)).2; omega) | exact (hC.2.2 (nuN P i) (by have := (hnu (by omega)).2; omega)).2) (((hP.o (cs := [181]) (fs := [20]) (mo.rf)).op (by omega)).trans (congrArg nI ho))) (by decide)) (fun rv1 s1 hq1 => ?_)
  obtain ⟨rfl, hq1⟩ := hq1
  replace hq1 := hq1.symm
  subst hq1
  refine Wp.go rfl ?_
  refine Wp.go rfl ?_
  iterate 2 refine Wp.go rfl ?_
  refine Wp.swI 3 (rdE hx (by first | omega | (have := (hnu (by omega)).2; omega) | exact (hC.2.2 (nuN P i) (by have := (hnu (by omega)).2; omega)).2) (((hP.o (cs := [181]) (fs := [20]) (mo.rf)).op (by omega)).trans (congrArg nI ho))) (by decide) (by decide) (by decide) ?_
  iterate 2 refine Wp.go rfl ?_
  refine Wp.call rfl cqX12_push (sX12_push (c := drA c 0) ((hC).h (nE_sub (hC).1 rfl (by first | omega | (have := (hnu (by omega)).2; omega) | exact (hC.2.2 (nuN P i) (by have := (hnu (by omega)).2; omega)).2)) (by first | omega | exact Nat.sub_le _ _)) (q := c.2 (nuN P i)) (by first | (show c.1 - 0 < 6; omega) | (rw [psA_1 (by show c.1 - 0 < 6; omega)]; show c.1 - 0 + 1 < 6; omega)) (rdE (rdE hx (by first | omega | (have := (hnu (by omega)).2; omega) | exact (hC.2.2 (nuN P i) (by have := (hnu (by omega)).2; omega)).2) (((hP.o (cs := [181]) (fs := [20]) (mo.rf)).nu (by omega)).trans (hnu (by omega)).1)) (by first | omega | (have := (hnu (by omega)).2; omega) | exact (hC.2.2 (nuN P i) (by have := (hnu (by omega)).2; omega)).2) ((hC).2.2 (nuN P i) (by first | omega | (have := (hnu (by omega)).2; omega) | exact (hC.2.2 (nuN P i) (by have := (hnu (by omega)).2; omega)).2)).1) (by first | omega | (have := (hnu (by omega)).2; omega) | exact (hC.2.2 (nuN P i) (by have := (hnu (by omega)).2; omega)).2)) (fun rv2 s2 hq2 => ?_)
  obtain ⟨rfl, hC2, ho2⟩ := hq2
  refine Wp.go rfl ?_
  refine Wp.ret rfl ?_
  refine ⟨rfl, ?_, ((mo.rf).tr (mo.f (c := 20) _ (by decide) _)).tr (ho2.wi (by decide) (by decide))⟩
  rw [wk3, kA_8 (hnu (by decide)).2]
  exact hC2
set_option maxRecDepth 100000 in
theorem sX12_work_4 {P : pT} {T : tT} {c : cS} {σ : mc_G} (hC : mHd c σ) (hP : cMP P σ) (hN : pNum P) (hY : pTy P T) (hO : tOk T) {x : Int32} {i : Nat} (hx : x = nI i) (hi : i < pn P) (hn : pn P ≤ 30) (hg : gC P T c) (hsu : suA T (opA P i) (nuN P i) c = true) (ho : opA P i = 4) (htk : tkA 4 ≤ c.1) (hfi : c.1 - tkA 4 + gvA 4 ≤ 6) : Wp miX12_work 0 [(0, .inr (some 167)), (1, .inl x)] [] σ (fun rv σ' => rv = none ∧ mHd (wkA (opA P i) (nuN P i) i (tyA P c) c) σ' ∧ mo [181] [20] σ σ') := by
  have h6 := hC.2.1
  have hnu := fun q => hN.1 i q
  have hn7 := fun q => hN.2.1 i q
  have hty := fun q => hY.1 i q
  have h13 := fun q => gC_13 hY hO hg (k := i) q hsu
  rw [ho] at hnu hn7 hty h13 hsu ⊢
  have htk : 0 ≤ c.1 := htk
  have hfi : c.1 - 0 + 2 ≤ 6 := hfi
  have m0 := mtp_lt hC 0
  have h8 := hO.2.1
  iterate 3 refine Wp.go rfl ?_
  refine Wp.go (if_pos ⟨rfl, rfl, (inE (n := 30) hx (by first | omega | (have := (hnu (by omega)).2; omega) | (have := hn7 (by omega); omega)))⟩) ?_
  iterate 4 refine Wp.go rfl ?_
  refine Wp.go (if_pos ⟨rfl, rfl, (inE (n := 30) hx (by first | omega | (have := (hnu (by omega)).2; omega) | (have := hn7 (by omega); omega)))⟩) ?_
  iterate 4 refine Wp.go rfl ?_
  refine Wp.neN (a := 4) (b := 3) (rdE hx (by first | omega | (have := (hnu (by omega)).2; omega) | (have := hn7 (by omega); omega)) (((hP.o (cs := [181]) (fs := [20]) (mo.rf)).op (by omega)).trans (congrArg nI ho))) (rfl : _ = nI 3) (by decide) (by decide) (fun _ => ?_) (fun q => absurd q (by decide))
  iterate 3 refine Wp.go rfl ?_
  refine Wp.eqN (a := 4) (b := 5) (rdE hx (by first | omega | (have := (hnu (by omega)).2; omega) | (have := hn7 (by omega); omega)) (((hP.o (cs := [181]) (fs := [20]) (mo.rf)).op (by omega)).trans (congrArg nI ho))) (rfl : _ = nI 5) (by decide) (by decide) (fun q => absurd q (by decide)) (fun _ => ?_)
  iterate 3 refine Wp.go rfl ?_
  refine Wp.eqN (a := 4) (b := 9) (rdE hx (by first | omega | (have := (hnu (by omega)).2; omega) | (have := hn7 (by omega); omega)) (((hP.o (cs := [181]) (fs := [20]) (mo.rf)).op (by omega)).trans (congrArg nI ho))) (rfl : _ = nI 9) (by decide) (by decide) (fun q => absurd q (by decide)) (fun _ => ?_)
  iterate 3 refine Wp.go rfl ?_
  refine Wp.neN (a := 4) (b := 13) (rdE hx (by first | omega | (have := (hnu (by omega)).2; omega) | (have := hn7 (by omega); omega)) (((hP.o (cs := [181]) (fs := [20]) (mo.rf)).op (by omega)).trans (congrArg nI ho))) (rfl : _ = nI 13) (by decide) (by decide) (fun _ => ?_) (fun q => absurd q (by decide))
  iterate 5 refine Wp.go rfl ?_
  refine Wp.neN (a := 4) (b := 12) (rdE hx (by first | omega | (have := (hnu (by omega)).2; omega) | (have := hn7 (by omega); omega)) (((hP.o (cs := [181]) (fs := [20]) (mo.rf)).op (by omega)).trans (congrArg nI ho))) (rfl : _ = nI 12) (by decide) (by decide) (fun _ => ?_) (fun q => absurd q (by decide))
  iterate 4 refine Wp.go rfl ?_
  refine Wp.call rfl cqX12_takes (sX12_takes (rdE hx (by first | omega | (have := (hnu (by omega)).2; omega) | (have := hn7 (by omega); omega)) (((hP.o (cs := [181]) (fs := [20]) (mo.rf)).op (by omega)).trans (congrArg nI ho))) (by decide)) (fun rv1 s1 hq1 => ?_)
  obtain ⟨rfl, hq1⟩ := hq1
  replace hq1 := hq1.symm
  subst hq1
  refine Wp.go rfl ?_
  refine Wp.go rfl ?_
  iterate 2 refine Wp.go rfl ?_
  refine Wp.swI 4 (rdE hx (by first | omega | (have := (hnu (by omega)).2; omega) | (have := hn7 (by omega); omega)) (((hP.o (cs := [181]) (fs := [20]) (mo.rf)).op (by omega)).trans (congrArg nI ho))) (by decide) (by decide) (by decide) ?_
  refine Wp.go rfl ?_
  refine Wp.call rfl cqX12_pushLong (sX12_pushLong (c := drA c 0) ((hC).h (nE_sub (hC).1 rfl (by first | omega | (have := (hnu (by omega)).2; omega) | (have := hn7 (by omega); omega))) (by first | omega | exact Nat.sub_le _ _)) (by show c.1 - 0 ≤ 4; omega)) (fun rv2 s2 hq2 => ?_)
  obtain ⟨rfl, hC2, ho2⟩ := hq2
  refine Wp.go rfl ?_
  refine Wp.ret rfl ?_
  refine ⟨rfl, ?_, ((mo.rf).tr (mo.f (c := 20) _ (by decide) _)).tr (ho2.wi (by decide) (by decide))⟩
  rw [wk4]
  exact hC2
set_option maxRecDepth 100000 in
theorem sX12_work_5 {P : pT} {T : tT} {c : cS} {σ : mc_G} (hC : mHd c σ) (hP : cMP P σ) (hN : pNum P) (hY : pTy P T) (hO : tOk T) {x : Int32} {i : Nat} (hx : x = nI i) (hi : i < pn P) (hn : pn P ≤ 30) (hg : gC P T c) (hsu : suA T (opA P i) (nuN P i) c = true) (ho : opA P i = 5) (htk : tkA 5 ≤ c.1) (hfi : c.1 - tkA 5 + gvA 5 ≤ 6) : Wp miX12_work 0 [(0, .inr (some 167)), (1, .inl x)] [] σ (fun rv σ' => rv = none ∧ mHd (wkA (opA P i) (nuN P i) i (tyA P c) c) σ' ∧ mo [181] [20] σ σ') := by
  have h6 := hC.2.1
  have hnu := fun q => hN.1 i q
  have hn7 := fun q => hN.2.1 i q
  have hty := fun q => hY.1 i q
  have h13 := fun q => gC_13 hY hO hg (k := i) q hsu
  rw [ho] at hnu hn7 hty h13 hsu ⊢
  have htk : 1 ≤ c.1 := htk
  have hfi : c.1 - 1 + 0 ≤ 6 := hfi
  have m0 := mtp_lt hC 0
  have h8 := hO.2.1
  iterate 3 refine Wp.go rfl ?_
  refine Wp.go (if_pos ⟨rfl, rfl, (inE (n := 30) hx (by first | omega | (have := (hnu (by omega)).2; omega) | (have := hn7 (by omega); omega)))⟩) ?_
  iterate 4 refine Wp.go rfl ?_
  refine Wp.go (if_pos ⟨rfl, rfl, (inE (n := 30) hx (by first | omega | (have := (hnu (by omega)).2; omega) | (have := hn7 (by omega); omega)))⟩) ?_
  iterate 4 refine Wp.go rfl ?_
  refine Wp.neN (a := 5) (b := 3) (rdE hx (by first | omega | (have := (hnu (by omega)).2; omega) | (have := hn7 (by omega); omega)) (((hP.o (cs := [181]) (fs := [20]) (mo.rf)).op (by omega)).trans (congrArg nI ho))) (rfl : _ = nI 3) (by decide) (by decide) (fun _ => ?_) (fun q => absurd q (by decide))
  iterate 3 refine Wp.go rfl ?_
  refine Wp.eqN (a := 5) (b := 5) (rdE hx (by first | omega | (have := (hnu (by omega)).2; omega) | (have := hn7 (by omega); omega)) (((hP.o (cs := [181]) (fs := [20]) (mo.rf)).op (by omega)).trans (congrArg nI ho))) (rfl : _ = nI 5) (by decide) (by decide) (fun _ => ?_) (fun q => absurd q (by decide))
  iterate 2 refine Wp.go rfl ?_
  refine Wp.call rfl cqX12_top (sX12_top (hC) (rfl : _ = nI 0) (by omega)) (fun rv1 s1 hq1 => ?_)
  obtain ⟨rfl, hq1⟩ := hq1
  replace hq1 := hq1.symm
  subst hq1
  iterate 5 refine Wp.go rfl ?_
  refine Wp.neN (a := 5) (b := 12) (rdE hx (by first | omega | (have := (hnu (by omega)).2; omega) | (have := hn7 (by omega); omega)) (((hP.o (cs := [181]) (fs := [20]) (mo.rf)).op (by omega)).trans (congrArg nI ho))) (rfl : _ = nI 12) (by decide) (by decide) (fun _ => ?_) (fun q => absurd q (by decide))
  iterate 4 refine Wp.go rfl ?_
  refine Wp.call rfl cqX12_takes (sX12_takes (rdE hx (by first | omega | (have := (hnu (by omega)).2; omega) | (have := hn7 (by omega); omega)) (((hP.o (cs := [181]) (fs := [20]) (mo.rf)).op (by omega)).trans (congrArg nI ho))) (by decide)) (fun rv2 s2 hq2 => ?_)
  obtain ⟨rfl, hq2⟩ := hq2
  replace hq2 := hq2.symm
  subst hq2
  refine Wp.go rfl ?_
  refine Wp.go rfl ?_
  iterate 2 refine Wp.go rfl ?_
  refine Wp.swI 5 (rdE hx (by first | omega | (have := (hnu (by omega)).2; omega) | (have := hn7 (by omega); omega)) (((hP.o (cs := [181]) (fs := [20]) (mo.rf)).op (by omega)).trans (congrArg nI ho))) (by decide) (by decide) (by decide) ?_
  iterate 5 refine Wp.go rfl ?_
  refine Wp.call rfl cqX12_lay (sX12_lay181 (c := drA c 1) ((hC).h (nE_sub (hC).1 rfl (by first | omega | (have := (hnu (by omega)).2; omega) | (have := hn7 (by omega); omega))) (by first | omega | exact Nat.sub_le _ _)).2.2 (by omega) (by show 8 + (c.1 - _) ≤ 14; omega) hg.2.2.2.1 hg.2.2.2.2.1 (rfl : _ = nI 0) (rdE hx (by first | omega | (have := (hnu (by omega)).2; omega) | (have := hn7 (by omega); omega)) (((hP.o (cs := [181]) (fs := [20]) (mo.rf)).nu (by omega)).trans (hnu (by omega)).1)) (by first | omega | (have := (hnu (by omega)).2; omega) | (have := hn7 (by omega); omega)) rfl (by first | omega | (have := (hnu (by omega)).2; omega) | (have := hn7 (by omega); omega))) (fun rv3 s3 hq3 => ?_)
  obtain ⟨rfl, hA3, ho3⟩ := hq3
  refine Wp.go rfl ?_
  refine Wp.ret rfl ?_
  refine ⟨rfl, ?_, ((mo.rf).tr (mo.f (c := 20) _ (by decide) _)).tr (ho3.wi (by decide) (by decide))⟩
  rw [wk5]
  exact (soH ((hC).h (nE_sub (hC).1 rfl (by first | omega | (have := (hnu (by omega)).2; omega) | (have := hn7 (by omega); omega))) (by first | omega | exact Nat.sub_le _ _)) hA3 ho3)
set_option maxRecDepth 100000 in
theorem sX12_work_6 {P : pT} {T : tT} {c : cS} {σ : mc_G} (hC : mHd c σ) (hP : cMP P σ) (hN : pNum P) (hY : pTy P T) (hO : tOk T) {x : Int32} {i : Nat} (hx : x = nI i) (hi : i < pn P) (hn : pn P ≤ 30) (hg : gC P T c) (hsu : suA T (opA P i) (nuN P i) c = true) (ho : opA P i = 6) (htk : tkA 6 ≤ c.1) (hfi : c.1 - tkA 6 + gvA 6 ≤ 6) : Wp miX12_work 0 [(0, .inr (some 167)), (1, .inl x)] [] σ (fun rv σ' => rv = none ∧ mHd (wkA (opA P i) (nuN P i) i (tyA P c) c) σ' ∧ mo [181] [20] σ σ') := by
  have h6 := hC.2.1
  have hnu := fun q => hN.1 i q
  have hn7 := fun q => hN.2.1 i q
  have hty := fun q => hY.1 i q
  have h13 := fun q => gC_13 hY hO hg (k := i) q hsu
  rw [ho] at hnu hn7 hty h13 hsu ⊢
  have htk : 2 ≤ c.1 := htk
  have hfi : c.1 - 2 + 0 ≤ 6 := hfi
  have m0 := mtp_lt hC 0
  have h8 := hO.2.1
  iterate 3 refine Wp.go rfl ?_
  refine Wp.go (if_pos ⟨rfl, rfl, (inE (n := 30) hx (by first | omega | (have := (hnu (by omega)).2; omega) | (have := hn7 (by omega); omega)))⟩) ?_
  iterate 4 refine Wp.go rfl ?_
  refine Wp.go (if_pos ⟨rfl, rfl, (inE (n := 30) hx (by first | omega | (have := (hnu (by omega)).2; omega) | (have := hn7 (by omega); omega)))⟩) ?_
  iterate 4 refine Wp.go rfl ?_
  refine Wp.neN (a := 6) (b := 3) (rdE hx (by first | omega | (have := (hnu (by omega)).2; omega) | (have := hn7 (by omega); omega)) (((hP.o (cs := [181]) (fs := [20]) (mo.rf)).op (by omega)).trans (congrArg nI ho))) (rfl : _ = nI 3) (by decide) (by decide) (fun _ => ?_) (fun q => absurd q (by decide))
  iterate 3 refine Wp.go rfl ?_
  refine Wp.eqN (a := 6) (b := 5) (rdE hx (by first | omega | (have := (hnu (by omega)).2; omega) | (have := hn7 (by omega); omega)) (((hP.o (cs := [181]) (fs := [20]) (mo.rf)).op (by omega)).trans (congrArg nI ho))) (rfl : _ = nI 5) (by decide) (by decide) (fun q => absurd q (by decide)) (fun _ => ?_)
  iterate 3 refine Wp.go rfl ?_
  refine Wp.eqN (a := 6) (b := 9) (rdE hx (by first | omega | (have := (hnu (by omega)).2; omega) | (have := hn7 (by omega); omega)) (((hP.o (cs := [181]) (fs := [20]) (mo.rf)).op (by omega)).trans (congrArg nI ho))) (rfl : _ = nI 9) (by decide) (by decide) (fun q => absurd q (by decide)) (fun _ => ?_)
  iterate 3 refine Wp.go rfl ?_
  refine Wp.neN (a := 6) (b := 13) (rdE hx (by first | omega | (have := (hnu (by omega)).2; omega) | (have := hn7 (by omega); omega)) (((hP.o (cs := [181]) (fs := [20]) (mo.rf)).op (by omega)).trans (congrArg nI ho))) (rfl : _ = nI 13) (by decide) (by decide) (fun _ => ?_) (fun q => absurd q (by decide))
  iterate 5 refine Wp.go rfl ?_
  refine Wp.neN (a := 6) (b := 12) (rdE hx (by first | omega | (have := (hnu (by omega)).2; omega) | (have := hn7 (by omega); omega)) (((hP.o (cs := [181]) (fs := [20]) (mo.rf)).op (by omega)).trans (congrArg nI ho))) (rfl : _ = nI 12) (by decide) (by decide) (fun _ => ?_) (fun q => absurd q (by decide))
  iterate 4 refine Wp.go rfl ?_
  refine Wp.call rfl cqX12_takes (sX12_takes (rdE hx (by first | omega | (have := (hnu (by omega)).2; omega) | (have := hn7 (by omega); omega)) (((hP.o (cs := [181]) (fs := [20]) (mo.rf)).op (by omega)).trans (congrArg nI ho))) (by decide)) (fun rv1 s1 hq1 => ?_)
  obtain ⟨rfl, hq1⟩ := hq1
  replace hq1 := hq1.symm
  subst hq1
  refine Wp.go rfl ?_
  refine Wp.go rfl ?_
  iterate 2 refine Wp.go rfl ?_
  refine Wp.swI 6 (rdE hx (by first | omega | (have := (hnu (by omega)).2; omega) | (have := hn7 (by omega); omega)) (((hP.o (cs := [181]) (fs := [20]) (mo.rf)).op (by omega)).trans (congrArg nI ho))) (by decide) (by decide) (by decide) ?_
  iterate 4 refine Wp.go rfl ?_
  refine Wp.call rfl cqX12_layLong (sX12_layLong181 (c := drA c 2) ((hC).h (nE_sub (hC).1 rfl (by first | omega | (have := (hnu (by omega)).2; omega) | (have := hn7 (by omega); omega))) (by first | omega | exact Nat.sub_le _ _)).2.2 (by omega) (by show 8 + (c.1 - _) ≤ 14; omega) hg.2.2.2.1 hg.2.2.2.2.1 (rfl : _ = nI 0) (rdE hx (by first | omega | (have := (hnu (by omega)).2; omega) | (have := hn7 (by omega); omega)) (((hP.o (cs := [181]) (fs := [20]) (mo.rf)).nu (by omega)).trans (hnu (by omega)).1)) (by first | omega | (have := (hnu (by omega)).2; omega) | (have := hn7 (by omega); omega))) (fun rv2 s2 hq2 => ?_)
  obtain ⟨rfl, hA2, ho2⟩ := hq2
  refine Wp.go rfl ?_
  refine Wp.ret rfl ?_
  refine ⟨rfl, ?_, ((mo.rf).tr (mo.f (c := 20) _ (by decide) _)).tr (ho2.wi (by decide) (by decide))⟩
  rw [wk6]
  exact (slH ((hC).h (nE_sub (hC).1 rfl (by first | omega | (have := (hnu (by omega)).2; omega) | (have := hn7 (by omega); omega))) (by first | omega | exact Nat.sub_le _ _)) hA2 ho2)
set_option maxRecDepth 100000 in
theorem sX12_work_7 {P : pT} {T : tT} {c : cS} {σ : mc_G} (hC : mHd c σ) (hP : cMP P σ) (hN : pNum P) (hY : pTy P T) (hO : tOk T) {x : Int32} {i : Nat} (hx : x = nI i) (hi : i < pn P) (hn : pn P ≤ 30) (hg : gC P T c) (hsu : suA T (opA P i) (nuN P i) c = true) (ho : opA P i = 7) (htk : tkA 7 ≤ c.1) (hfi : c.1 - tkA 7 + gvA 7 ≤ 6) : Wp miX12_work 0 [(0, .inr (some 167)), (1, .inl x)] [] σ (fun rv σ' => rv = none ∧ mHd (wkA (opA P i) (nuN P i) i (tyA P c) c) σ' ∧ mo [181] [20] σ σ') := by
  have h6 := hC.2.1
  have hnu := fun q => hN.1 i q
  have hn7 := fun q => hN.2.1 i q
  have hty := fun q => hY.1 i q
  have h13 := fun q => gC_13 hY hO hg (k := i) q hsu
  rw [ho] at hnu hn7 hty h13 hsu ⊢
  have htk : 1 ≤ c.1 := htk
  have hfi : c.1 - 1 + 0 ≤ 6 := hfi
  have m0 := mtp_lt hC 0
  have h8 := hO.2.1
  iterate 3 refine Wp.go rfl ?_
  refine Wp.go (if_pos ⟨rfl, rfl, (inE (n := 30) hx (by first | omega | (have := (hnu (by omega)).2; omega) | (have := hn7 (by omega); omega)))⟩) ?_
  iterate 4 refine Wp.go rfl ?_
  refine Wp.go (if_pos ⟨rfl, rfl, (inE (n := 30) hx (by first | omega | (have := (hnu (by omega)).2; omega) | (have := hn7 (by omega); omega)))⟩) ?_
  iterate 4 refine Wp.go rfl ?_
  refine Wp.neN (a := 7) (b := 3) (rdE hx (by first | omega | (have := (hnu (by omega)).2; omega) | (have := hn7 (by omega); omega)) (((hP.o (cs := [181]) (fs := [20]) (mo.rf)).op (by omega)).trans (congrArg nI ho))) (rfl : _ = nI 3) (by decide) (by decide) (fun _ => ?_) (fun q => absurd q (by decide))
  iterate 3 refine Wp.go rfl ?_
  refine Wp.eqN (a := 7) (b := 5) (rdE hx (by first | omega | (have := (hnu (by omega)).2; omega) | (have := hn7 (by omega); omega)) (((hP.o (cs := [181]) (fs := [20]) (mo.rf)).op (by omega)).trans (congrArg nI ho))) (rfl : _ = nI 5) (by decide) (by decide) (fun q => absurd q (by decide)) (fun _ => ?_)
  iterate 3 refine Wp.go rfl ?_
  refine Wp.eqN (a := 7) (b := 9) (rdE hx (by first | omega | (have := (hnu (by omega)).2; omega) | (have := hn7 (by omega); omega)) (((hP.o (cs := [181]) (fs := [20]) (mo.rf)).op (by omega)).trans (congrArg nI ho))) (rfl : _ = nI 9) (by decide) (by decide) (fun q => absurd q (by decide)) (fun _ => ?_)
  iterate 3 refine Wp.go rfl ?_
  refine Wp.neN (a := 7) (b := 13) (rdE hx (by first | omega | (have := (hnu (by omega)).2; omega) | (have := hn7 (by omega); omega)) (((hP.o (cs := [181]) (fs := [20]) (mo.rf)).op (by omega)).trans (congrArg nI ho))) (rfl : _ = nI 13) (by decide) (by decide) (fun _ => ?_) (fun q => absurd q (by decide))
  iterate 5 refine Wp.go rfl ?_
  refine Wp.neN (a := 7) (b := 12) (rdE hx (by first | omega | (have := (hnu (by omega)).2; omega) | (have := hn7 (by omega); omega)) (((hP.o (cs := [181]) (fs := [20]) (mo.rf)).op (by omega)).trans (congrArg nI ho))) (rfl : _ = nI 12) (by decide) (by decide) (fun _ => ?_) (fun q => absurd q (by decide))
  iterate 4 refine Wp.go rfl ?_
  refine Wp.call rfl cqX12_takes (sX12_takes (rdE hx (by first | omega | (have := (hnu (by omega)).2; omega) | (have := hn7 (by omega); omega)) (((hP.o (cs := [181]) (fs := [20]) (mo.rf)).op (by omega)).trans (congrArg nI ho))) (by decide)) (fun rv1 s1 hq1 => ?_)
  obtain ⟨rfl, hq1⟩ := hq1
  replace hq1 := hq1.symm
  subst hq1
  refine Wp.go rfl ?_
  refine Wp.go rfl ?_
  iterate 2 refine Wp.go rfl ?_
  refine Wp.swI 7 (rdE hx (by first | omega | (have := (hnu (by omega)).2; omega) | (have := hn7 (by omega); omega)) (((hP.o (cs := [181]) (fs := [20]) (mo.rf)).op (by omega)).trans (congrArg nI ho))) (by decide) (by decide) (by decide) ?_
  refine Wp.ret rfl ?_
  refine ⟨rfl, ?_, (mo.rf).tr (mo.f (c := 20) _ (by decide) _)⟩
  rw [wk7]
  exact (hC).h (nE_sub (hC).1 rfl (by first | omega | (have := (hnu (by omega)).2; omega) | (have := hn7 (by omega); omega))) (by first | omega | exact Nat.sub_le _ _)
set_option maxRecDepth 100000 in
theorem sX12_work_8 {P : pT} {T : tT} {c : cS} {σ : mc_G} (hC : mHd c σ) (hP : cMP P σ) (hN : pNum P) (hY : pTy P T) (hO : tOk T) {x : Int32} {i : Nat} (hx : x = nI i) (hi : i < pn P) (hn : pn P ≤ 30) (hg : gC P T c) (hsu : suA T (opA P i) (nuN P i) c = true) (ho : opA P i = 8) (htk : tkA 8 ≤ c.1) (hfi : c.1 - tkA 8 + gvA 8 ≤ 6) : Wp miX12_work 0 [(0, .inr (some 167)), (1, .inl x)] [] σ (fun rv σ' => rv = none ∧ mHd (wkA (opA P i) (nuN P i) i (tyA P c) c) σ' ∧ mo [181] [20] σ σ') := by
  have h6 := hC.2.1
  have hnu := fun q => hN.1 i q
  have hn7 := fun q => hN.2.1 i q
  have hty := fun q => hY.1 i q
  have h13 := fun q => gC_13 hY hO hg (k := i) q hsu
  rw [ho] at hnu hn7 hty h13 hsu ⊢
  have htk : 2 ≤ c.1 := htk
  have hfi : c.1 - 2 + 0 ≤ 6 := hfi
  have m0 := mtp_lt hC 0
  have h8 := hO.2.1
  iterate 3 refine Wp.go rfl ?_
  refine Wp.go (if_pos ⟨rfl, rfl, (inE (n := 30) hx (by first | omega | (have := (hnu (by omega)).2; omega) | (have := hn7 (by omega); omega)))⟩) ?_
  iterate 4 refine Wp.go rfl ?_
  refine Wp.go (if_pos ⟨rfl, rfl, (inE (n := 30) hx (by first | omega | (have := (hnu (by omega)).2; omega) | (have := hn7 (by omega); omega)))⟩) ?_
  iterate 4 refine Wp.go rfl ?_
  refine Wp.neN (a := 8) (b := 3) (rdE hx (by first | omega | (have := (hnu (by omega)).2; omega) | (have := hn7 (by omega); omega)) (((hP.o (cs := [181]) (fs := [20]) (mo.rf)).op (by omega)).trans (congrArg nI ho))) (rfl : _ = nI 3) (by decide) (by decide) (fun _ => ?_) (fun q => absurd q (by decide))
  iterate 3 refine Wp.go rfl ?_
  refine Wp.eqN (a := 8) (b := 5) (rdE hx (by first | omega | (have := (hnu (by omega)).2; omega) | (have := hn7 (by omega); omega)) (((hP.o (cs := [181]) (fs := [20]) (mo.rf)).op (by omega)).trans (congrArg nI ho))) (rfl : _ = nI 5) (by decide) (by decide) (fun q => absurd q (by decide)) (fun _ => ?_)
  iterate 3 refine Wp.go rfl ?_
  refine Wp.eqN (a := 8) (b := 9) (rdE hx (by first | omega | (have := (hnu (by omega)).2; omega) | (have := hn7 (by omega); omega)) (((hP.o (cs := [181]) (fs := [20]) (mo.rf)).op (by omega)).trans (congrArg nI ho))) (rfl : _ = nI 9) (by decide) (by decide) (fun q => absurd q (by decide)) (fun _ => ?_)
  iterate 3 refine Wp.go rfl ?_
  refine Wp.neN (a := 8) (b := 13) (rdE hx (by first | omega | (have := (hnu (by omega)).2; omega) | (have := hn7 (by omega); omega)) (((hP.o (cs := [181]) (fs := [20]) (mo.rf)).op (by omega)).trans (congrArg nI ho))) (rfl : _ = nI 13) (by decide) (by decide) (fun _ => ?_) (fun q => absurd q (by decide))
  iterate 5 refine Wp.go rfl ?_
  refine Wp.neN (a := 8) (b := 12) (rdE hx (by first | omega | (have := (hnu (by omega)).2; omega) | (have := hn7 (by omega); omega)) (((hP.o (cs := [181]) (fs := [20]) (mo.rf)).op (by omega)).trans (congrArg nI ho))) (rfl : _ = nI 12) (by decide) (by decide) (fun _ => ?_) (fun q => absurd q (by decide))
  iterate 4 refine Wp.go rfl ?_
  refine Wp.call rfl cqX12_takes (sX12_takes (rdE hx (by first | omega | (have := (hnu (by omega)).2; omega) | (have := hn7 (by omega); omega)) (((hP.o (cs := [181]) (fs := [20]) (mo.rf)).op (by omega)).trans (congrArg nI ho))) (by decide)) (fun rv1 s1 hq1 => ?_)
  obtain ⟨rfl, hq1⟩ := hq1
  replace hq1 := hq1.symm
  subst hq1
  refine Wp.go rfl ?_
  refine Wp.go rfl ?_
  iterate 2 refine Wp.go rfl ?_
  refine Wp.swI 8 (rdE hx (by first | omega | (have := (hnu (by omega)).2; omega) | (have := hn7 (by omega); omega)) (((hP.o (cs := [181]) (fs := [20]) (mo.rf)).op (by omega)).trans (congrArg nI ho))) (by decide) (by decide) (by decide) ?_
  refine Wp.ret rfl ?_
  refine ⟨rfl, ?_, (mo.rf).tr (mo.f (c := 20) _ (by decide) _)⟩
  rw [wk8]
  exact (hC).h (nE_sub (hC).1 rfl (by first | omega | (have := (hnu (by omega)).2; omega) | (have := hn7 (by omega); omega))) (by first | omega | exact Nat.sub_le _ _)
set_option maxRecDepth 100000 in
theorem sX12_work_9 {P : pT} {T : tT} {c : cS} {σ : mc_G} (hC : mHd c σ) (hP : cMP P σ) (hN : pNum P) (hY : pTy P T) (hO : tOk T) {x : Int32} {i : Nat} (hx : x = nI i) (hi : i < pn P) (hn : pn P ≤ 30) (hg : gC P T c) (hsu : suA T (opA P i) (nuN P i) c = true) (ho : opA P i = 9) (htk : tkA 9 ≤ c.1) (hfi : c.1 - tkA 9 + gvA 9 ≤ 6) : Wp miX12_work 0 [(0, .inr (some 167)), (1, .inl x)] [] σ (fun rv σ' => rv = none ∧ mHd (wkA (opA P i) (nuN P i) i (tyA P c) c) σ' ∧ mo [181] [20] σ σ') := by
  have h6 := hC.2.1
  have hnu := fun q => hN.1 i q
  have hn7 := fun q => hN.2.1 i q
  have hty := fun q => hY.1 i q
  have h13 := fun q => gC_13 hY hO hg (k := i) q hsu
  rw [ho] at hnu hn7 hty h13 hsu ⊢
  have htk : 1 ≤ c.1 := htk
  have hfi : c.1 - 1 + 2 ≤ 6 := hfi
  have m0 := mtp_lt hC 0
  have h8 := hO.2.1
  iterate 3 refine Wp.go rfl ?_
  refine Wp.go (if_pos ⟨rfl, rfl, (inE (n := 30) hx (by first | omega | (have := (hnu (by omega)).2; omega) | (have := hn7 (by omega); omega)))⟩) ?_
  iterate 4 refine Wp.go rfl ?_
  refine Wp.go (if_pos ⟨rfl, rfl, (inE (n := 30) hx (by first | omega | (have := (hnu (by omega)).2; omega) | (have := hn7 (by omega); omega)))⟩) ?_
  iterate 4 refine Wp.go rfl ?_
  refine Wp.neN (a := 9) (b := 3) (rdE hx (by first | omega | (have := (hnu (by omega)).2; omega) | (have := hn7 (by omega); omega)) (((hP.o (cs := [181]) (fs := [20]) (mo.rf)).op (by omega)).trans (congrArg nI ho))) (rfl : _ = nI 3) (by decide) (by decide) (fun _ => ?_) (fun q => absurd q (by decide))
  iterate 3 refine Wp.go rfl ?_
  refine Wp.eqN (a := 9) (b := 5) (rdE hx (by first | omega | (have := (hnu (by omega)).2; omega) | (have := hn7 (by omega); omega)) (((hP.o (cs := [181]) (fs := [20]) (mo.rf)).op (by omega)).trans (congrArg nI ho))) (rfl : _ = nI 5) (by decide) (by decide) (fun q => absurd q (by decide)) (fun _ => ?_)
  iterate 3 refine Wp.go rfl ?_
  refine Wp.eqN (a := 9) (b := 9) (rdE hx (by first | omega | (have := (hnu (by omega)).2; omega) | (have := hn7 (by omega); omega)) (((hP.o (cs := [181]) (fs := [20]) (mo.rf)).op (by omega)).trans (congrArg nI ho))) (rfl : _ = nI 9) (by decide) (by decide) (fun _ => ?_) (fun q => absurd q (by decide))
  iterate 2 refine Wp.go rfl ?_
  refine Wp.call rfl cqX12_top (sX12_top (hC) (rfl : _ = nI 0) (by omega)) (fun rv1 s1 hq1 => ?_)
  obtain ⟨rfl, hq1⟩ := hq1
  replace hq1 := hq1.symm
  subst hq1
  iterate 5 refine Wp.go rfl ?_
  refine Wp.neN (a := 9) (b := 12) (rdE hx (by first | omega | (have := (hnu (by omega)).2; omega) | (have := hn7 (by omega); omega)) (((hP.o (cs := [181]) (fs := [20]) (mo.rf)).op (by omega)).trans (congrArg nI ho))) (rfl : _ = nI 12) (by decide) (by decide) (fun _ => ?_) (fun q => absurd q (by decide))
  iterate 4 refine Wp.go rfl ?_
  refine Wp.call rfl cqX12_takes (sX12_takes (rdE hx (by first | omega | (have := (hnu (by omega)).2; omega) | (have := hn7 (by omega); omega)) (((hP.o (cs := [181]) (fs := [20]) (mo.rf)).op (by omega)).trans (congrArg nI ho))) (by decide)) (fun rv2 s2 hq2 => ?_)
  obtain ⟨rfl, hq2⟩ := hq2
  replace hq2 := hq2.symm
  subst hq2
  refine Wp.go rfl ?_
  refine Wp.go rfl ?_
  iterate 2 refine Wp.go rfl ?_
  refine Wp.swI 9 (rdE hx (by first | omega | (have := (hnu (by omega)).2; omega) | (have := hn7 (by omega); omega)) (((hP.o (cs := [181]) (fs := [20]) (mo.rf)).op (by omega)).trans (congrArg nI ho))) (by decide) (by decide) (by decide) ?_
  iterate 2 refine Wp.go rfl ?_
  refine Wp.call rfl cqX12_push (sX12_push (c := drA c 1) ((hC).h (nE_sub (hC).1 rfl (by first | omega | (have := (hnu (by omega)).2; omega) | (have := hn7 (by omega); omega))) (by first | omega | exact Nat.sub_le _ _)) (q := tpA c 0) (by first | (show c.1 - 1 < 6; omega) | (rw [psA_1 (by show c.1 - 1 < 6; omega)]; show c.1 - 1 + 1 < 6; omega)) rfl (by first | omega | (have := (hnu (by omega)).2; omega) | (have := hn7 (by omega); omega))) (fun rv3 s3 hq3 => ?_)
  obtain ⟨rfl, hC3, ho3⟩ := hq3
  iterate 2 refine Wp.go rfl ?_
  refine Wp.call rfl cqX12_push (sX12_push (c := psA (drA c 1) (tpA c 0)) (hC3) (q := tpA c 0) (by first | (show c.1 - 1 < 6; omega) | (rw [psA_1 (by show c.1 - 1 < 6; omega)]; show c.1 - 1 + 1 < 6; omega)) rfl (by first | omega | (have := (hnu (by omega)).2; omega) | (have := hn7 (by omega); omega))) (fun rv4 s4 hq4 => ?_)
  obtain ⟨rfl, hC4, ho4⟩ := hq4
  refine Wp.go rfl ?_
  refine Wp.ret rfl ?_
  refine ⟨rfl, ?_, (((mo.rf).tr (mo.f (c := 20) _ (by decide) _)).tr (ho3.wi (by decide) (by decide))).tr (ho4.wi (by decide) (by decide))⟩
  rw [wk9]
  exact hC4
set_option maxRecDepth 100000 in
theorem sX12_work_10 {P : pT} {T : tT} {c : cS} {σ : mc_G} (hC : mHd c σ) (hP : cMP P σ) (hN : pNum P) (hY : pTy P T) (hO : tOk T) {x : Int32} {i : Nat} (hx : x = nI i) (hi : i < pn P) (hn : pn P ≤ 30) (hg : gC P T c) (hsu : suA T (opA P i) (nuN P i) c = true) (ho : opA P i = 10) (htk : tkA 10 ≤ c.1) (hfi : c.1 - tkA 10 + gvA 10 ≤ 6) : Wp miX12_work 0 [(0, .inr (some 167)), (1, .inl x)] [] σ (fun rv σ' => rv = none ∧ mHd (wkA (opA P i) (nuN P i) i (tyA P c) c) σ' ∧ mo [181] [20] σ σ') := by
  have h6 := hC.2.1
  have hnu := fun q => hN.1 i q
  have hn7 := fun q => hN.2.1 i q
  have hty := fun q => hY.1 i q
  have h13 := fun q => gC_13 hY hO hg (k := i) q hsu
  rw [ho] at hnu hn7 hty h13 hsu ⊢
  have htk : 2 ≤ c.1 := htk
  have hfi : c.1 - 2 + 1 ≤ 6 := hfi
  have m0 := mtp_lt hC 0
  have h8 := hO.2.1
  iterate 3 refine Wp.go rfl ?_
  refine Wp.go (if_pos ⟨rfl, rfl, (inE (n := 30) hx (by first | omega | (have := (hnu (by omega)).2; omega) | (have := hn7 (by omega); omega)))⟩) ?_
  iterate 4 refine Wp.go rfl ?_
  refine Wp.go (if_pos ⟨rfl, rfl, (inE (n := 30) hx (by first | omega | (have := (hnu (by omega)).2; omega) | (have := hn7 (by omega); omega)))⟩) ?_
  iterate 4 refine Wp.go rfl ?_
  refine Wp.neN (a := 10) (b := 3) (rdE hx (by first | omega | (have := (hnu (by omega)).2; omega) | (have := hn7 (by omega); omega)) (((hP.o (cs := [181]) (fs := [20]) (mo.rf)).op (by omega)).trans (congrArg nI ho))) (rfl : _ = nI 3) (by decide) (by decide) (fun _ => ?_) (fun q => absurd q (by decide))
  iterate 3 refine Wp.go rfl ?_
  refine Wp.eqN (a := 10) (b := 5) (rdE hx (by first | omega | (have := (hnu (by omega)).2; omega) | (have := hn7 (by omega); omega)) (((hP.o (cs := [181]) (fs := [20]) (mo.rf)).op (by omega)).trans (congrArg nI ho))) (rfl : _ = nI 5) (by decide) (by decide) (fun q => absurd q (by decide)) (fun _ => ?_)
  iterate 3 refine Wp.go rfl ?_
  refine Wp.eqN (a := 10) (b := 9) (rdE hx (by first | omega | (have := (hnu (by omega)).2; omega) | (have := hn7 (by omega); omega)) (((hP.o (cs := [181]) (fs := [20]) (mo.rf)).op (by omega)).trans (congrArg nI ho))) (rfl : _ = nI 9) (by decide) (by decide) (fun q => absurd q (by decide)) (fun _ => ?_)
  iterate 3 refine Wp.go rfl ?_
  refine Wp.neN (a := 10) (b := 13) (rdE hx (by first | omega | (have := (hnu (by omega)).2; omega) | (have := hn7 (by omega); omega)) (((hP.o (cs := [181]) (fs := [20]) (mo.rf)).op (by omega)).trans (congrArg nI ho))) (rfl : _ = nI 13) (by decide) (by decide) (fun _ => ?_) (fun q => absurd q (by decide))
  iterate 5 refine Wp.go rfl ?_
  refine Wp.neN (a := 10) (b := 12) (rdE hx (by first | omega | (have := (hnu (by omega)).2; omega) | (have := hn7 (by omega); omega)) (((hP.o (cs := [181]) (fs := [20]) (mo.rf)).op (by omega)).trans (congrArg nI ho))) (rfl : _ = nI 12) (by decide) (by decide) (fun _ => ?_) (fun q => absurd q (by decide))
  iterate 4 refine Wp.go rfl ?_
  refine Wp.call rfl cqX12_takes (sX12_takes (rdE hx (by first | omega | (have := (hnu (by omega)).2; omega) | (have := hn7 (by omega); omega)) (((hP.o (cs := [181]) (fs := [20]) (mo.rf)).op (by omega)).trans (congrArg nI ho))) (by decide)) (fun rv1 s1 hq1 => ?_)
  obtain ⟨rfl, hq1⟩ := hq1
  replace hq1 := hq1.symm
  subst hq1
  refine Wp.go rfl ?_
  refine Wp.go rfl ?_
  iterate 2 refine Wp.go rfl ?_
  refine Wp.swI 10 (rdE hx (by first | omega | (have := (hnu (by omega)).2; omega) | (have := hn7 (by omega); omega)) (((hP.o (cs := [181]) (fs := [20]) (mo.rf)).op (by omega)).trans (congrArg nI ho))) (by decide) (by decide) (by decide) ?_
  iterate 2 refine Wp.go rfl ?_
  refine Wp.call rfl cqX12_push (sX12_push (c := drA c 2) ((hC).h (nE_sub (hC).1 rfl (by first | omega | (have := (hnu (by omega)).2; omega) | (have := hn7 (by omega); omega))) (by first | omega | exact Nat.sub_le _ _)) (q := 1) (by first | (show c.1 - 2 < 6; omega) | (rw [psA_1 (by show c.1 - 2 < 6; omega)]; show c.1 - 2 + 1 < 6; omega)) (rfl : _ = nI 1) (by first | omega | (have := (hnu (by omega)).2; omega) | (have := hn7 (by omega); omega))) (fun rv2 s2 hq2 => ?_)
  obtain ⟨rfl, hC2, ho2⟩ := hq2
  refine Wp.go rfl ?_
  refine Wp.ret rfl ?_
  refine ⟨rfl, ?_, ((mo.rf).tr (mo.f (c := 20) _ (by decide) _)).tr (ho2.wi (by decide) (by decide))⟩
  rw [wk10]
  exact hC2
set_option maxRecDepth 100000 in
theorem sX12_work_11 {P : pT} {T : tT} {c : cS} {σ : mc_G} (hC : mHd c σ) (hP : cMP P σ) (hN : pNum P) (hY : pTy P T) (hO : tOk T) {x : Int32} {i : Nat} (hx : x = nI i) (hi : i < pn P) (hn : pn P ≤ 30) (hg : gC P T c) (hsu : suA T (opA P i) (nuN P i) c = true) (ho : opA P i = 11) (htk : tkA 11 ≤ c.1) (hfi : c.1 - tkA 11 + gvA 11 ≤ 6) : Wp miX12_work 0 [(0, .inr (some 167)), (1, .inl x)] [] σ (fun rv σ' => rv = none ∧ mHd (wkA (opA P i) (nuN P i) i (tyA P c) c) σ' ∧ mo [181] [20] σ σ') := by
  have h6 := hC.2.1
  have hnu := fun q => hN.1 i q
  have hn7 := fun q => hN.2.1 i q
  have hty := fun q => hY.1 i q
  have h13 := fun q => gC_13 hY hO hg (k := i) q hsu
  rw [ho] at hnu hn7 hty h13 hsu ⊢
  have htk : 4 ≤ c.1 := htk
  have hfi : c.1 - 4 + 2 ≤ 6 := hfi
  have m0 := mtp_lt hC 0
  have h8 := hO.2.1
  iterate 3 refine Wp.go rfl ?_
  refine Wp.go (if_pos ⟨rfl, rfl, (inE (n := 30) hx (by first | omega | (have := (hnu (by omega)).2; omega) | (have := hn7 (by omega); omega)))⟩) ?_
  iterate 4 refine Wp.go rfl ?_
  refine Wp.go (if_pos ⟨rfl, rfl, (inE (n := 30) hx (by first | omega | (have := (hnu (by omega)).2; omega) | (have := hn7 (by omega); omega)))⟩) ?_
  iterate 4 refine Wp.go rfl ?_
  refine Wp.neN (a := 11) (b := 3) (rdE hx (by first | omega | (have := (hnu (by omega)).2; omega) | (have := hn7 (by omega); omega)) (((hP.o (cs := [181]) (fs := [20]) (mo.rf)).op (by omega)).trans (congrArg nI ho))) (rfl : _ = nI 3) (by decide) (by decide) (fun _ => ?_) (fun q => absurd q (by decide))
  iterate 3 refine Wp.go rfl ?_
  refine Wp.eqN (a := 11) (b := 5) (rdE hx (by first | omega | (have := (hnu (by omega)).2; omega) | (have := hn7 (by omega); omega)) (((hP.o (cs := [181]) (fs := [20]) (mo.rf)).op (by omega)).trans (congrArg nI ho))) (rfl : _ = nI 5) (by decide) (by decide) (fun q => absurd q (by decide)) (fun _ => ?_)
  iterate 3 refine Wp.go rfl ?_
  refine Wp.eqN (a := 11) (b := 9) (rdE hx (by first | omega | (have := (hnu (by omega)).2; omega) | (have := hn7 (by omega); omega)) (((hP.o (cs := [181]) (fs := [20]) (mo.rf)).op (by omega)).trans (congrArg nI ho))) (rfl : _ = nI 9) (by decide) (by decide) (fun q => absurd q (by decide)) (fun _ => ?_)
  iterate 3 refine Wp.go rfl ?_
  refine Wp.neN (a := 11) (b := 13) (rdE hx (by first | omega | (have := (hnu (by omega)).2; omega) | (have := hn7 (by omega); omega)) (((hP.o (cs := [181]) (fs := [20]) (mo.rf)).op (by omega)).trans (congrArg nI ho))) (rfl : _ = nI 13) (by decide) (by decide) (fun _ => ?_) (fun q => absurd q (by decide))
  iterate 5 refine Wp.go rfl ?_
  refine Wp.neN (a := 11) (b := 12) (rdE hx (by first | omega | (have := (hnu (by omega)).2; omega) | (have := hn7 (by omega); omega)) (((hP.o (cs := [181]) (fs := [20]) (mo.rf)).op (by omega)).trans (congrArg nI ho))) (rfl : _ = nI 12) (by decide) (by decide) (fun _ => ?_) (fun q => absurd q (by decide))
  iterate 4 refine Wp.go rfl ?_
  refine Wp.call rfl cqX12_takes (sX12_takes (rdE hx (by first | omega | (have := (hnu (by omega)).2; omega) | (have := hn7 (by omega); omega)) (((hP.o (cs := [181]) (fs := [20]) (mo.rf)).op (by omega)).trans (congrArg nI ho))) (by decide)) (fun rv1 s1 hq1 => ?_)
  obtain ⟨rfl, hq1⟩ := hq1
  replace hq1 := hq1.symm
  subst hq1
  refine Wp.go rfl ?_
  refine Wp.go rfl ?_
  iterate 2 refine Wp.go rfl ?_
  refine Wp.swI 11 (rdE hx (by first | omega | (have := (hnu (by omega)).2; omega) | (have := hn7 (by omega); omega)) (((hP.o (cs := [181]) (fs := [20]) (mo.rf)).op (by omega)).trans (congrArg nI ho))) (by decide) (by decide) (by decide) ?_
  refine Wp.go rfl ?_
  refine Wp.call rfl cqX12_pushLong (sX12_pushLong (c := drA c 4) ((hC).h (nE_sub (hC).1 rfl (by first | omega | (have := (hnu (by omega)).2; omega) | (have := hn7 (by omega); omega))) (by first | omega | exact Nat.sub_le _ _)) (by show c.1 - 4 ≤ 4; omega)) (fun rv2 s2 hq2 => ?_)
  obtain ⟨rfl, hC2, ho2⟩ := hq2
  refine Wp.go rfl ?_
  refine Wp.ret rfl ?_
  refine ⟨rfl, ?_, ((mo.rf).tr (mo.f (c := 20) _ (by decide) _)).tr (ho2.wi (by decide) (by decide))⟩
  rw [wk11]
  exact hC2
set_option maxRecDepth 100000 in
theorem sX12_work_12 {P : pT} {T : tT} {c : cS} {σ : mc_G} (hC : mHd c σ) (hP : cMP P σ) (hN : pNum P) (hY : pTy P T) (hO : tOk T) {x : Int32} {i : Nat} (hx : x = nI i) (hi : i < pn P) (hn : pn P ≤ 30) (hg : gC P T c) (hsu : suA T (opA P i) (nuN P i) c = true) (ho : opA P i = 12) (htk : tkA 12 ≤ c.1) (hfi : c.1 - tkA 12 + gvA 12 ≤ 6) : Wp miX12_work 0 [(0, .inr (some 167)), (1, .inl x)] [] σ (fun rv σ' => rv = none ∧ mHd (wkA (opA P i) (nuN P i) i (tyA P c) c) σ' ∧ mo [181] [20] σ σ') := by
  have h6 := hC.2.1
  have hnu := fun q => hN.1 i q
  have hn7 := fun q => hN.2.1 i q
  have hty := fun q => hY.1 i q
  have h13 := fun q => gC_13 hY hO hg (k := i) q hsu
  rw [ho] at hnu hn7 hty h13 hsu ⊢
  have htk : 0 ≤ c.1 := htk
  have hfi : c.1 - 0 + 1 ≤ 6 := hfi
  have m0 := mtp_lt hC 0
  have h8 := hO.2.1
  iterate 3 refine Wp.go rfl ?_
  refine Wp.go (if_pos ⟨rfl, rfl, (inE (n := 30) hx (by first | omega | (have := (hnu (by omega)).2; omega) | (have := hn7 (by omega); omega)))⟩) ?_
  iterate 4 refine Wp.go rfl ?_
  refine Wp.go (if_pos ⟨rfl, rfl, (inE (n := 30) hx (by first | omega | (have := (hnu (by omega)).2; omega) | (have := hn7 (by omega); omega)))⟩) ?_
  iterate 4 refine Wp.go rfl ?_
  refine Wp.neN (a := 12) (b := 3) (rdE hx (by first | omega | (have := (hnu (by omega)).2; omega) | (have := hn7 (by omega); omega)) (((hP.o (cs := [181]) (fs := [20]) (mo.rf)).op (by omega)).trans (congrArg nI ho))) (rfl : _ = nI 3) (by decide) (by decide) (fun _ => ?_) (fun q => absurd q (by decide))
  iterate 3 refine Wp.go rfl ?_
  refine Wp.eqN (a := 12) (b := 5) (rdE hx (by first | omega | (have := (hnu (by omega)).2; omega) | (have := hn7 (by omega); omega)) (((hP.o (cs := [181]) (fs := [20]) (mo.rf)).op (by omega)).trans (congrArg nI ho))) (rfl : _ = nI 5) (by decide) (by decide) (fun q => absurd q (by decide)) (fun _ => ?_)
  iterate 3 refine Wp.go rfl ?_
  refine Wp.eqN (a := 12) (b := 9) (rdE hx (by first | omega | (have := (hnu (by omega)).2; omega) | (have := hn7 (by omega); omega)) (((hP.o (cs := [181]) (fs := [20]) (mo.rf)).op (by omega)).trans (congrArg nI ho))) (rfl : _ = nI 9) (by decide) (by decide) (fun q => absurd q (by decide)) (fun _ => ?_)
  iterate 3 refine Wp.go rfl ?_
  refine Wp.neN (a := 12) (b := 13) (rdE hx (by first | omega | (have := (hnu (by omega)).2; omega) | (have := hn7 (by omega); omega)) (((hP.o (cs := [181]) (fs := [20]) (mo.rf)).op (by omega)).trans (congrArg nI ho))) (rfl : _ = nI 13) (by decide) (by decide) (fun _ => ?_) (fun q => absurd q (by decide))
  iterate 5 refine Wp.go rfl ?_
  refine Wp.neN (a := 12) (b := 12) (rdE hx (by first | omega | (have := (hnu (by omega)).2; omega) | (have := hn7 (by omega); omega)) (((hP.o (cs := [181]) (fs := [20]) (mo.rf)).op (by omega)).trans (congrArg nI ho))) (rfl : _ = nI 12) (by decide) (by decide) (fun q => absurd q (by decide)) (fun _ => ?_)
  iterate 5 refine Wp.go rfl ?_
  refine Wp.call rfl cqX12_becomes (sX12_becomes (c := c) (hC) (nE_add (rfl : _ = nI 200) hx) (by first | omega | (have := (hnu (by omega)).2; omega) | (have := hn7 (by omega); omega)) (rfl : _ = nI 0) (by first | omega | (have := (hnu (by omega)).2; omega) | (have := hn7 (by omega); omega))) (fun rv1 s1 hq1 => ?_)
  obtain ⟨rfl, hC1, ho1⟩ := hq1
  iterate 4 refine Wp.go rfl ?_
  refine Wp.call rfl cqX12_takes (sX12_takes (rdE hx (by first | omega | (have := (hnu (by omega)).2; omega) | (have := hn7 (by omega); omega)) (((hP.o (cs := [181]) (fs := [20]) (mo.rf)).op (by omega)).trans (congrArg nI ho))) (by decide)) (fun rv2 s2 hq2 => ?_)
  obtain ⟨rfl, hq2⟩ := hq2
  replace hq2 := hq2.symm
  subst hq2
  refine Wp.go rfl ?_
  refine Wp.go rfl ?_
  iterate 2 refine Wp.go rfl ?_
  refine Wp.swI 12 (rdE hx (by first | omega | (have := (hnu (by omega)).2; omega) | (have := hn7 (by omega); omega)) (((hP.o (cs := [181]) (fs := [20]) (mo.rf)).op (by omega)).trans (congrArg nI ho))) (by decide) (by decide) (by decide) ?_
  iterate 4 refine Wp.go rfl ?_
  refine Wp.call rfl cqX12_push (sX12_push (c := drA (rpA c (200 + i) 0) 0) ((hC1).h (nE_sub (hC1).1 rfl (by first | omega | (have := (hnu (by omega)).2; omega) | (have := hn7 (by omega); omega))) (by first | omega | exact Nat.sub_le _ _)) (q := 200 + i) (by first | (show c.1 - 0 < 6; omega) | (rw [psA_1 (by show c.1 - 0 < 6; omega)]; show c.1 - 0 + 1 < 6; omega)) (nE_add (rfl : _ = nI 200) hx) (by first | omega | (have := (hnu (by omega)).2; omega) | (have := hn7 (by omega); omega))) (fun rv3 s3 hq3 => ?_)
  obtain ⟨rfl, hC3, ho3⟩ := hq3
  refine Wp.go rfl ?_
  refine Wp.ret rfl ?_
  refine ⟨rfl, ?_, (((mo.rf).tr (ho1.wi (by decide) (by decide))).tr (mo.f (c := 20) _ (by decide) _)).tr (ho3.wi (by decide) (by decide))⟩
  rw [wk12]
  exact hC3
set_option maxRecDepth 100000 in
theorem sX12_work_13 {P : pT} {T : tT} {c : cS} {σ : mc_G} (hC : mHd c σ) (hP : cMP P σ) (hN : pNum P) (hY : pTy P T) (hO : tOk T) {x : Int32} {i : Nat} (hx : x = nI i) (hi : i < pn P) (hn : pn P ≤ 30) (hg : gC P T c) (hsu : suA T (opA P i) (nuN P i) c = true) (ho : opA P i = 13) (htk : tkA 13 ≤ c.1) (hfi : c.1 - tkA 13 + gvA 13 ≤ 6) : Wp miX12_work 0 [(0, .inr (some 167)), (1, .inl x)] [] σ (fun rv σ' => rv = none ∧ mHd (wkA (opA P i) (nuN P i) i (tyA P c) c) σ' ∧ mo [181] [20] σ σ') := by
  have h6 := hC.2.1
  have hnu := fun q => hN.1 i q
  have hn7 := fun q => hN.2.1 i q
  have hty := fun q => hY.1 i q
  have h13 := fun q => gC_13 hY hO hg (k := i) q hsu
  rw [ho] at hnu hn7 hty h13 hsu ⊢
  have htk : 1 ≤ c.1 := htk
  have hfi : c.1 - 1 + 0 ≤ 6 := hfi
  have m0 := mtp_lt hC 0
  have h8 := hO.2.1
  have hlt := op_lt (vK_200 hO (vK_tp hg.2.1 0) (h13 rfl).2.2.1)
  have h2k := h13 rfl
  iterate 3 refine Wp.go rfl ?_
  refine Wp.go (if_pos ⟨rfl, rfl, (inE (n := 30) hx (by first | omega | (have := h13 (by omega); omega) | (have := op_lt (vK_200 hO (vK_tp hg.2.1 0) (h13 (by omega)).2.2.1); omega)))⟩) ?_
  iterate 4 refine Wp.go rfl ?_
  refine Wp.go (if_pos ⟨rfl, rfl, (inE (n := 30) hx (by first | omega | (have := h13 (by omega); omega) | (have := op_lt (vK_200 hO (vK_tp hg.2.1 0) (h13 (by omega)).2.2.1); omega)))⟩) ?_
  iterate 4 refine Wp.go rfl ?_
  refine Wp.neN (a := 13) (b := 3) (rdE hx (by first | omega | (have := h13 (by omega); omega) | (have := op_lt (vK_200 hO (vK_tp hg.2.1 0) (h13 (by omega)).2.2.1); omega)) (((hP.o (cs := [181]) (fs := [20]) (mo.rf)).op (by omega)).trans (congrArg nI ho))) (rfl : _ = nI 3) (by decide) (by decide) (fun _ => ?_) (fun q => absurd q (by decide))
  iterate 3 refine Wp.go rfl ?_
  refine Wp.eqN (a := 13) (b := 5) (rdE hx (by first | omega | (have := h13 (by omega); omega) | (have := op_lt (vK_200 hO (vK_tp hg.2.1 0) (h13 (by omega)).2.2.1); omega)) (((hP.o (cs := [181]) (fs := [20]) (mo.rf)).op (by omega)).trans (congrArg nI ho))) (rfl : _ = nI 5) (by decide) (by decide) (fun q => absurd q (by decide)) (fun _ => ?_)
  iterate 3 refine Wp.go rfl ?_
  refine Wp.eqN (a := 13) (b := 9) (rdE hx (by first | omega | (have := h13 (by omega); omega) | (have := op_lt (vK_200 hO (vK_tp hg.2.1 0) (h13 (by omega)).2.2.1); omega)) (((hP.o (cs := [181]) (fs := [20]) (mo.rf)).op (by omega)).trans (congrArg nI ho))) (rfl : _ = nI 9) (by decide) (by decide) (fun q => absurd q (by decide)) (fun _ => ?_)
  iterate 3 refine Wp.go rfl ?_
  refine Wp.neN (a := 13) (b := 13) (rdE hx (by first | omega | (have := h13 (by omega); omega) | (have := op_lt (vK_200 hO (vK_tp hg.2.1 0) (h13 (by omega)).2.2.1); omega)) (((hP.o (cs := [181]) (fs := [20]) (mo.rf)).op (by omega)).trans (congrArg nI ho))) (rfl : _ = nI 13) (by decide) (by decide) (fun q => absurd q (by decide)) (fun _ => ?_)
  iterate 2 refine Wp.go rfl ?_
  refine Wp.call rfl cqX12_top (sX12_top (hC) (rfl : _ = nI 0) (by omega)) (fun rv1 s1 hq1 => ?_)
  obtain ⟨rfl, hq1⟩ := hq1
  replace hq1 := hq1.symm
  subst hq1
  iterate 5 refine Wp.go rfl ?_
  refine Wp.neN (a := 13) (b := 12) (rdE hx (by first | omega | (have := h13 (by omega); omega) | (have := op_lt (vK_200 hO (vK_tp hg.2.1 0) (h13 (by omega)).2.2.1); omega)) (((hP.o (cs := [181]) (fs := [20]) (mo.rf)).op (by omega)).trans (congrArg nI ho))) (rfl : _ = nI 12) (by decide) (by decide) (fun _ => ?_) (fun q => absurd q (by decide))
  iterate 4 refine Wp.go rfl ?_
  refine Wp.call rfl cqX12_takes (sX12_takes (rdE hx (by first | omega | (have := h13 (by omega); omega) | (have := op_lt (vK_200 hO (vK_tp hg.2.1 0) (h13 (by omega)).2.2.1); omega)) (((hP.o (cs := [181]) (fs := [20]) (mo.rf)).op (by omega)).trans (congrArg nI ho))) (by decide)) (fun rv2 s2 hq2 => ?_)
  obtain ⟨rfl, hq2⟩ := hq2
  replace hq2 := hq2.symm
  subst hq2
  refine Wp.go rfl ?_
  refine Wp.go rfl ?_
  iterate 2 refine Wp.go rfl ?_
  refine Wp.swI 13 (rdE hx (by first | omega | (have := h13 (by omega); omega) | (have := op_lt (vK_200 hO (vK_tp hg.2.1 0) (h13 (by omega)).2.2.1); omega)) (((hP.o (cs := [181]) (fs := [20]) (mo.rf)).op (by omega)).trans (congrArg nI ho))) (by decide) (by decide) (by decide) ?_
  iterate 8 refine Wp.go rfl ?_
  refine Wp.go (if_pos ⟨rfl, rfl, (inE (n := 30) (nE_sub rfl (rfl : _ = nI 200) (by first | omega | (have := h13 (by omega); omega) | (have := op_lt (vK_200 hO (vK_tp hg.2.1 0) (h13 (by omega)).2.2.1); omega))) (by first | omega | (have := h13 (by omega); omega) | (have := op_lt (vK_200 hO (vK_tp hg.2.1 0) (h13 (by omega)).2.2.1); omega)))⟩) ?_
  refine Wp.go rfl ?_
  refine Wp.call rfl cqX12_becomes (sX12_becomes (c := drA c 1) ((hC).h (nE_sub (hC).1 rfl (by first | omega | (have := h13 (by omega); omega) | (have := op_lt (vK_200 hO (vK_tp hg.2.1 0) (h13 (by omega)).2.2.1); omega))) (by first | omega | exact Nat.sub_le _ _)) rfl (by first | omega | (have := h13 (by omega); omega) | (have := op_lt (vK_200 hO (vK_tp hg.2.1 0) (h13 (by omega)).2.2.1); omega)) (nE_add (rfl : _ = nI 100) (rdE (nE_sub rfl (rfl : _ = nI 200) (by first | omega | (have := h13 (by omega); omega) | (have := op_lt (vK_200 hO (vK_tp hg.2.1 0) (h13 (by omega)).2.2.1); omega))) (by first | omega | (have := h13 (by omega); omega) | (have := op_lt (vK_200 hO (vK_tp hg.2.1 0) (h13 (by omega)).2.2.1); omega)) ((hP.nu (by omega)).trans (h13 (by omega)).1))) (by first | omega | (have := h13 (by omega); omega) | (have := op_lt (vK_200 hO (vK_tp hg.2.1 0) (h13 (by omega)).2.2.1); omega))) (fun rv3 s3 hq3 => ?_)
  obtain ⟨rfl, hC3, ho3⟩ := hq3
  refine Wp.go rfl ?_
  refine Wp.ret rfl ?_
  refine ⟨rfl, ?_, ((mo.rf).tr (mo.f (c := 20) _ (by decide) _)).tr (ho3.wi (by decide) (by decide))⟩
  rw [wk13]
  exact hC3
set_option maxRecDepth 100000 in
theorem sX12_work_14 {P : pT} {T : tT} {c : cS} {σ : mc_G} (hC : mHd c σ) (hP : cMP P σ) (hN : pNum P) (hY : pTy P T) (hO : tOk T) {x : Int32} {i : Nat} (hx : x = nI i) (hi : i < pn P) (hn : pn P ≤ 30) (hg : gC P T c) (hsu : suA T (opA P i) (nuN P i) c = true) (ho : opA P i = 14) (htk : tkA 14 ≤ c.1) (hfi : c.1 - tkA 14 + gvA 14 ≤ 6) : Wp miX12_work 0 [(0, .inr (some 167)), (1, .inl x)] [] σ (fun rv σ' => rv = none ∧ mHd (wkA (opA P i) (nuN P i) i (tyA P c) c) σ' ∧ mo [181] [20] σ σ') := by
  have h6 := hC.2.1
  have hnu := fun q => hN.1 i q
  have hn7 := fun q => hN.2.1 i q
  have hty := fun q => hY.1 i q
  have h13 := fun q => gC_13 hY hO hg (k := i) q hsu
  rw [ho] at hnu hn7 hty h13 hsu ⊢
  have htk : 1 ≤ c.1 := htk
  have hfi : c.1 - 1 + 1 ≤ 6 := hfi
  have m0 := mtp_lt hC 0
  have h8 := hO.2.1
  iterate 3 refine Wp.go rfl ?_
  refine Wp.go (if_pos ⟨rfl, rfl, (inE (n := 30) hx (by first | omega | (have := (hnu (by omega)).2; omega)))⟩) ?_
  iterate 4 refine Wp.go rfl ?_
  refine Wp.go (if_pos ⟨rfl, rfl, (inE (n := 30) hx (by first | omega | (have := (hnu (by omega)).2; omega)))⟩) ?_
  iterate 4 refine Wp.go rfl ?_
  refine Wp.neN (a := 14) (b := 3) (rdE hx (by first | omega | (have := (hnu (by omega)).2; omega)) (((hP.o (cs := [181]) (fs := [20]) (mo.rf)).op (by omega)).trans (congrArg nI ho))) (rfl : _ = nI 3) (by decide) (by decide) (fun _ => ?_) (fun q => absurd q (by decide))
  iterate 3 refine Wp.go rfl ?_
  refine Wp.eqN (a := 14) (b := 5) (rdE hx (by first | omega | (have := (hnu (by omega)).2; omega)) (((hP.o (cs := [181]) (fs := [20]) (mo.rf)).op (by omega)).trans (congrArg nI ho))) (rfl : _ = nI 5) (by decide) (by decide) (fun q => absurd q (by decide)) (fun _ => ?_)
  iterate 3 refine Wp.go rfl ?_
  refine Wp.eqN (a := 14) (b := 9) (rdE hx (by first | omega | (have := (hnu (by omega)).2; omega)) (((hP.o (cs := [181]) (fs := [20]) (mo.rf)).op (by omega)).trans (congrArg nI ho))) (rfl : _ = nI 9) (by decide) (by decide) (fun q => absurd q (by decide)) (fun _ => ?_)
  iterate 3 refine Wp.go rfl ?_
  refine Wp.neN (a := 14) (b := 13) (rdE hx (by first | omega | (have := (hnu (by omega)).2; omega)) (((hP.o (cs := [181]) (fs := [20]) (mo.rf)).op (by omega)).trans (congrArg nI ho))) (rfl : _ = nI 13) (by decide) (by decide) (fun _ => ?_) (fun q => absurd q (by decide))
  iterate 5 refine Wp.go rfl ?_
  refine Wp.neN (a := 14) (b := 12) (rdE hx (by first | omega | (have := (hnu (by omega)).2; omega)) (((hP.o (cs := [181]) (fs := [20]) (mo.rf)).op (by omega)).trans (congrArg nI ho))) (rfl : _ = nI 12) (by decide) (by decide) (fun _ => ?_) (fun q => absurd q (by decide))
  iterate 4 refine Wp.go rfl ?_
  refine Wp.call rfl cqX12_takes (sX12_takes (rdE hx (by first | omega | (have := (hnu (by omega)).2; omega)) (((hP.o (cs := [181]) (fs := [20]) (mo.rf)).op (by omega)).trans (congrArg nI ho))) (by decide)) (fun rv1 s1 hq1 => ?_)
  obtain ⟨rfl, hq1⟩ := hq1
  replace hq1 := hq1.symm
  subst hq1
  refine Wp.go rfl ?_
  refine Wp.go rfl ?_
  iterate 2 refine Wp.go rfl ?_
  refine Wp.swI 14 (rdE hx (by first | omega | (have := (hnu (by omega)).2; omega)) (((hP.o (cs := [181]) (fs := [20]) (mo.rf)).op (by omega)).trans (congrArg nI ho))) (by decide) (by decide) (by decide) ?_
  iterate 4 refine Wp.go rfl ?_
  refine Wp.call rfl cqX12_push (sX12_push (c := drA c 1) ((hC).h (nE_sub (hC).1 rfl (by first | omega | (have := (hnu (by omega)).2; omega))) (by first | omega | exact Nat.sub_le _ _)) (q := 100 + (nuN P i)) (by first | (show c.1 - 1 < 6; omega) | (rw [psA_1 (by show c.1 - 1 < 6; omega)]; show c.1 - 1 + 1 < 6; omega)) (nE_add (rfl : _ = nI 100) (rdE hx (by first | omega | (have := (hnu (by omega)).2; omega)) (((hP.o (cs := [181]) (fs := [20]) (mo.rf)).nu (by omega)).trans (hnu (by omega)).1))) (by first | omega | (have := (hnu (by omega)).2; omega))) (fun rv2 s2 hq2 => ?_)
  obtain ⟨rfl, hC2, ho2⟩ := hq2
  refine Wp.go rfl ?_
  refine Wp.ret rfl ?_
  refine ⟨rfl, ?_, ((mo.rf).tr (mo.f (c := 20) _ (by decide) _)).tr (ho2.wi (by decide) (by decide))⟩
  rw [wk14]
  exact hC2
set_option maxRecDepth 100000 in
theorem sX12_work_15 {P : pT} {T : tT} {c : cS} {σ : mc_G} (hC : mHd c σ) (hP : cMP P σ) (hN : pNum P) (hY : pTy P T) (hO : tOk T) {x : Int32} {i : Nat} (hx : x = nI i) (hi : i < pn P) (hn : pn P ≤ 30) (hg : gC P T c) (hsu : suA T (opA P i) (nuN P i) c = true) (ho : opA P i = 15) (htk : tkA 15 ≤ c.1) (hfi : c.1 - tkA 15 + gvA 15 ≤ 6) : Wp miX12_work 0 [(0, .inr (some 167)), (1, .inl x)] [] σ (fun rv σ' => rv = none ∧ mHd (wkA (opA P i) (nuN P i) i (tyA P c) c) σ' ∧ mo [181] [20] σ σ') := by
  have h6 := hC.2.1
  have hnu := fun q => hN.1 i q
  have hn7 := fun q => hN.2.1 i q
  have hty := fun q => hY.1 i q
  have h13 := fun q => gC_13 hY hO hg (k := i) q hsu
  rw [ho] at hnu hn7 hty h13 hsu ⊢
  have htk : 1 ≤ c.1 := htk
  have hfi : c.1 - 1 + 0 ≤ 6 := hfi
  have m0 := mtp_lt hC 0
  have h8 := hO.2.1
  iterate 3 refine Wp.go rfl ?_
  refine Wp.go (if_pos ⟨rfl, rfl, (inE (n := 30) hx (by first | omega | (have := (hnu (by omega)).2; omega) | (have := hn7 (by omega); omega)))⟩) ?_
  iterate 4 refine Wp.go rfl ?_
  refine Wp.go (if_pos ⟨rfl, rfl, (inE (n := 30) hx (by first | omega | (have := (hnu (by omega)).2; omega) | (have := hn7 (by omega); omega)))⟩) ?_
  iterate 4 refine Wp.go rfl ?_
  refine Wp.neN (a := 15) (b := 3) (rdE hx (by first | omega | (have := (hnu (by omega)).2; omega) | (have := hn7 (by omega); omega)) (((hP.o (cs := [181]) (fs := [20]) (mo.rf)).op (by omega)).trans (congrArg nI ho))) (rfl : _ = nI 3) (by decide) (by decide) (fun _ => ?_) (fun q => absurd q (by decide))
  iterate 3 refine Wp.go rfl ?_
  refine Wp.eqN (a := 15) (b := 5) (rdE hx (by first | omega | (have := (hnu (by omega)).2; omega) | (have := hn7 (by omega); omega)) (((hP.o (cs := [181]) (fs := [20]) (mo.rf)).op (by omega)).trans (congrArg nI ho))) (rfl : _ = nI 5) (by decide) (by decide) (fun q => absurd q (by decide)) (fun _ => ?_)
  iterate 3 refine Wp.go rfl ?_
  refine Wp.eqN (a := 15) (b := 9) (rdE hx (by first | omega | (have := (hnu (by omega)).2; omega) | (have := hn7 (by omega); omega)) (((hP.o (cs := [181]) (fs := [20]) (mo.rf)).op (by omega)).trans (congrArg nI ho))) (rfl : _ = nI 9) (by decide) (by decide) (fun q => absurd q (by decide)) (fun _ => ?_)
  iterate 3 refine Wp.go rfl ?_
  refine Wp.neN (a := 15) (b := 13) (rdE hx (by first | omega | (have := (hnu (by omega)).2; omega) | (have := hn7 (by omega); omega)) (((hP.o (cs := [181]) (fs := [20]) (mo.rf)).op (by omega)).trans (congrArg nI ho))) (rfl : _ = nI 13) (by decide) (by decide) (fun _ => ?_) (fun q => absurd q (by decide))
  iterate 5 refine Wp.go rfl ?_
  refine Wp.neN (a := 15) (b := 12) (rdE hx (by first | omega | (have := (hnu (by omega)).2; omega) | (have := hn7 (by omega); omega)) (((hP.o (cs := [181]) (fs := [20]) (mo.rf)).op (by omega)).trans (congrArg nI ho))) (rfl : _ = nI 12) (by decide) (by decide) (fun _ => ?_) (fun q => absurd q (by decide))
  iterate 4 refine Wp.go rfl ?_
  refine Wp.call rfl cqX12_takes (sX12_takes (rdE hx (by first | omega | (have := (hnu (by omega)).2; omega) | (have := hn7 (by omega); omega)) (((hP.o (cs := [181]) (fs := [20]) (mo.rf)).op (by omega)).trans (congrArg nI ho))) (by decide)) (fun rv1 s1 hq1 => ?_)
  obtain ⟨rfl, hq1⟩ := hq1
  replace hq1 := hq1.symm
  subst hq1
  refine Wp.go rfl ?_
  refine Wp.go rfl ?_
  iterate 2 refine Wp.go rfl ?_
  refine Wp.swO (rdE hx (by first | omega | (have := (hnu (by omega)).2; omega) | (have := hn7 (by omega); omega)) (((hP.o (cs := [181]) (fs := [20]) (mo.rf)).op (by omega)).trans (congrArg nI ho))) (by decide) (by decide) ?_
  refine Wp.ret rfl ?_
  refine ⟨rfl, ?_, (mo.rf).tr (mo.f (c := 20) _ (by decide) _)⟩
  rw [wk15]
  exact (hC).h (nE_sub (hC).1 rfl (by first | omega | (have := (hnu (by omega)).2; omega) | (have := hn7 (by omega); omega))) (by first | omega | exact Nat.sub_le _ _)
set_option maxRecDepth 100000 in
theorem sX12_work_16 {P : pT} {T : tT} {c : cS} {σ : mc_G} (hC : mHd c σ) (hP : cMP P σ) (hN : pNum P) (hY : pTy P T) (hO : tOk T) {x : Int32} {i : Nat} (hx : x = nI i) (hi : i < pn P) (hn : pn P ≤ 30) (hg : gC P T c) (hsu : suA T (opA P i) (nuN P i) c = true) (ho : opA P i = 16) (htk : tkA 16 ≤ c.1) (hfi : c.1 - tkA 16 + gvA 16 ≤ 6) : Wp miX12_work 0 [(0, .inr (some 167)), (1, .inl x)] [] σ (fun rv σ' => rv = none ∧ mHd (wkA (opA P i) (nuN P i) i (tyA P c) c) σ' ∧ mo [181] [20] σ σ') := by
  have h6 := hC.2.1
  have hnu := fun q => hN.1 i q
  have hn7 := fun q => hN.2.1 i q
  have hty := fun q => hY.1 i q
  have h13 := fun q => gC_13 hY hO hg (k := i) q hsu
  rw [ho] at hnu hn7 hty h13 hsu ⊢
  have htk : 1 ≤ c.1 := htk
  have hfi : c.1 - 1 + 0 ≤ 6 := hfi
  have m0 := mtp_lt hC 0
  have h8 := hO.2.1
  iterate 3 refine Wp.go rfl ?_
  refine Wp.go (if_pos ⟨rfl, rfl, (inE (n := 30) hx (by first | omega | (have := (hnu (by omega)).2; omega) | (have := hn7 (by omega); omega)))⟩) ?_
  iterate 4 refine Wp.go rfl ?_
  refine Wp.go (if_pos ⟨rfl, rfl, (inE (n := 30) hx (by first | omega | (have := (hnu (by omega)).2; omega) | (have := hn7 (by omega); omega)))⟩) ?_
  iterate 4 refine Wp.go rfl ?_
  refine Wp.neN (a := 16) (b := 3) (rdE hx (by first | omega | (have := (hnu (by omega)).2; omega) | (have := hn7 (by omega); omega)) (((hP.o (cs := [181]) (fs := [20]) (mo.rf)).op (by omega)).trans (congrArg nI ho))) (rfl : _ = nI 3) (by decide) (by decide) (fun _ => ?_) (fun q => absurd q (by decide))
  iterate 3 refine Wp.go rfl ?_
  refine Wp.eqN (a := 16) (b := 5) (rdE hx (by first | omega | (have := (hnu (by omega)).2; omega) | (have := hn7 (by omega); omega)) (((hP.o (cs := [181]) (fs := [20]) (mo.rf)).op (by omega)).trans (congrArg nI ho))) (rfl : _ = nI 5) (by decide) (by decide) (fun q => absurd q (by decide)) (fun _ => ?_)
  iterate 3 refine Wp.go rfl ?_
  refine Wp.eqN (a := 16) (b := 9) (rdE hx (by first | omega | (have := (hnu (by omega)).2; omega) | (have := hn7 (by omega); omega)) (((hP.o (cs := [181]) (fs := [20]) (mo.rf)).op (by omega)).trans (congrArg nI ho))) (rfl : _ = nI 9) (by decide) (by decide) (fun q => absurd q (by decide)) (fun _ => ?_)
  iterate 3 refine Wp.go rfl ?_
  refine Wp.neN (a := 16) (b := 13) (rdE hx (by first | omega | (have := (hnu (by omega)).2; omega) | (have := hn7 (by omega); omega)) (((hP.o (cs := [181]) (fs := [20]) (mo.rf)).op (by omega)).trans (congrArg nI ho))) (rfl : _ = nI 13) (by decide) (by decide) (fun _ => ?_) (fun q => absurd q (by decide))
  iterate 5 refine Wp.go rfl ?_
  refine Wp.neN (a := 16) (b := 12) (rdE hx (by first | omega | (have := (hnu (by omega)).2; omega) | (have := hn7 (by omega); omega)) (((hP.o (cs := [181]) (fs := [20]) (mo.rf)).op (by omega)).trans (congrArg nI ho))) (rfl : _ = nI 12) (by decide) (by decide) (fun _ => ?_) (fun q => absurd q (by decide))
  iterate 4 refine Wp.go rfl ?_
  refine Wp.call rfl cqX12_takes (sX12_takes (rdE hx (by first | omega | (have := (hnu (by omega)).2; omega) | (have := hn7 (by omega); omega)) (((hP.o (cs := [181]) (fs := [20]) (mo.rf)).op (by omega)).trans (congrArg nI ho))) (by decide)) (fun rv1 s1 hq1 => ?_)
  obtain ⟨rfl, hq1⟩ := hq1
  replace hq1 := hq1.symm
  subst hq1
  refine Wp.go rfl ?_
  refine Wp.go rfl ?_
  iterate 2 refine Wp.go rfl ?_
  refine Wp.swO (rdE hx (by first | omega | (have := (hnu (by omega)).2; omega) | (have := hn7 (by omega); omega)) (((hP.o (cs := [181]) (fs := [20]) (mo.rf)).op (by omega)).trans (congrArg nI ho))) (by decide) (by decide) ?_
  refine Wp.ret rfl ?_
  refine ⟨rfl, ?_, (mo.rf).tr (mo.f (c := 20) _ (by decide) _)⟩
  rw [wk16]
  exact (hC).h (nE_sub (hC).1 rfl (by first | omega | (have := (hnu (by omega)).2; omega) | (have := hn7 (by omega); omega))) (by first | omega | exact Nat.sub_le _ _)
set_option maxRecDepth 100000 in
theorem sX12_work_17 {P : pT} {T : tT} {c : cS} {σ : mc_G} (hC : mHd c σ) (hP : cMP P σ) (hN : pNum P) (hY : pTy P T) (hO : tOk T) {x : Int32} {i : Nat} (hx : x = nI i) (hi : i < pn P) (hn : pn P ≤ 30) (hg : gC P T c) (hsu : suA T (opA P i) (nuN P i) c = true) (ho : opA P i = 17) (htk : tkA 17 ≤ c.1) (hfi : c.1 - tkA 17 + gvA 17 ≤ 6) : Wp miX12_work 0 [(0, .inr (some 167)), (1, .inl x)] [] σ (fun rv σ' => rv = none ∧ mHd (wkA (opA P i) (nuN P i) i (tyA P c) c) σ' ∧ mo [181] [20] σ σ') := by
  have h6 := hC.2.1
  have hnu := fun q => hN.1 i q
  have hn7 := fun q => hN.2.1 i q
  have hty := fun q => hY.1 i q
  have h13 := fun q => gC_13 hY hO hg (k := i) q hsu
  rw [ho] at hnu hn7 hty h13 hsu ⊢
  have htk : 2 ≤ c.1 := htk
  have hfi : c.1 - 2 + 0 ≤ 6 := hfi
  have m0 := mtp_lt hC 0
  have h8 := hO.2.1
  iterate 3 refine Wp.go rfl ?_
  refine Wp.go (if_pos ⟨rfl, rfl, (inE (n := 30) hx (by first | omega | (have := (hnu (by omega)).2; omega) | (have := hn7 (by omega); omega)))⟩) ?_
  iterate 4 refine Wp.go rfl ?_
  refine Wp.go (if_pos ⟨rfl, rfl, (inE (n := 30) hx (by first | omega | (have := (hnu (by omega)).2; omega) | (have := hn7 (by omega); omega)))⟩) ?_
  iterate 4 refine Wp.go rfl ?_
  refine Wp.neN (a := 17) (b := 3) (rdE hx (by first | omega | (have := (hnu (by omega)).2; omega) | (have := hn7 (by omega); omega)) (((hP.o (cs := [181]) (fs := [20]) (mo.rf)).op (by omega)).trans (congrArg nI ho))) (rfl : _ = nI 3) (by decide) (by decide) (fun _ => ?_) (fun q => absurd q (by decide))
  iterate 3 refine Wp.go rfl ?_
  refine Wp.eqN (a := 17) (b := 5) (rdE hx (by first | omega | (have := (hnu (by omega)).2; omega) | (have := hn7 (by omega); omega)) (((hP.o (cs := [181]) (fs := [20]) (mo.rf)).op (by omega)).trans (congrArg nI ho))) (rfl : _ = nI 5) (by decide) (by decide) (fun q => absurd q (by decide)) (fun _ => ?_)
  iterate 3 refine Wp.go rfl ?_
  refine Wp.eqN (a := 17) (b := 9) (rdE hx (by first | omega | (have := (hnu (by omega)).2; omega) | (have := hn7 (by omega); omega)) (((hP.o (cs := [181]) (fs := [20]) (mo.rf)).op (by omega)).trans (congrArg nI ho))) (rfl : _ = nI 9) (by decide) (by decide) (fun q => absurd q (by decide)) (fun _ => ?_)
  iterate 3 refine Wp.go rfl ?_
  refine Wp.neN (a := 17) (b := 13) (rdE hx (by first | omega | (have := (hnu (by omega)).2; omega) | (have := hn7 (by omega); omega)) (((hP.o (cs := [181]) (fs := [20]) (mo.rf)).op (by omega)).trans (congrArg nI ho))) (rfl : _ = nI 13) (by decide) (by decide) (fun _ => ?_) (fun q => absurd q (by decide))
  iterate 5 refine Wp.go rfl ?_
  refine Wp.neN (a := 17) (b := 12) (rdE hx (by first | omega | (have := (hnu (by omega)).2; omega) | (have := hn7 (by omega); omega)) (((hP.o (cs := [181]) (fs := [20]) (mo.rf)).op (by omega)).trans (congrArg nI ho))) (rfl : _ = nI 12) (by decide) (by decide) (fun _ => ?_) (fun q => absurd q (by decide))
  iterate 4 refine Wp.go rfl ?_
  refine Wp.call rfl cqX12_takes (sX12_takes (rdE hx (by first | omega | (have := (hnu (by omega)).2; omega) | (have := hn7 (by omega); omega)) (((hP.o (cs := [181]) (fs := [20]) (mo.rf)).op (by omega)).trans (congrArg nI ho))) (by decide)) (fun rv1 s1 hq1 => ?_)
  obtain ⟨rfl, hq1⟩ := hq1
  replace hq1 := hq1.symm
  subst hq1
  refine Wp.go rfl ?_
  refine Wp.go rfl ?_
  iterate 2 refine Wp.go rfl ?_
  refine Wp.swO (rdE hx (by first | omega | (have := (hnu (by omega)).2; omega) | (have := hn7 (by omega); omega)) (((hP.o (cs := [181]) (fs := [20]) (mo.rf)).op (by omega)).trans (congrArg nI ho))) (by decide) (by decide) ?_
  refine Wp.ret rfl ?_
  refine ⟨rfl, ?_, (mo.rf).tr (mo.f (c := 20) _ (by decide) _)⟩
  rw [wk17]
  exact (hC).h (nE_sub (hC).1 rfl (by first | omega | (have := (hnu (by omega)).2; omega) | (have := hn7 (by omega); omega))) (by first | omega | exact Nat.sub_le _ _)
set_option maxRecDepth 100000 in
theorem sX12_work_18 {P : pT} {T : tT} {c : cS} {σ : mc_G} (hC : mHd c σ) (hP : cMP P σ) (hN : pNum P) (hY : pTy P T) (hO : tOk T) {x : Int32} {i : Nat} (hx : x = nI i) (hi : i < pn P) (hn : pn P ≤ 30) (hg : gC P T c) (hsu : suA T (opA P i) (nuN P i) c = true) (ho : opA P i = 18) (htk : tkA 18 ≤ c.1) (hfi : c.1 - tkA 18 + gvA 18 ≤ 6) : Wp miX12_work 0 [(0, .inr (some 167)), (1, .inl x)] [] σ (fun rv σ' => rv = none ∧ mHd (wkA (opA P i) (nuN P i) i (tyA P c) c) σ' ∧ mo [181] [20] σ σ') := by
  have h6 := hC.2.1
  have hnu := fun q => hN.1 i q
  have hn7 := fun q => hN.2.1 i q
  have hty := fun q => hY.1 i q
  have h13 := fun q => gC_13 hY hO hg (k := i) q hsu
  rw [ho] at hnu hn7 hty h13 hsu ⊢
  have htk : 0 ≤ c.1 := htk
  have hfi : c.1 - 0 + 0 ≤ 6 := hfi
  have m0 := mtp_lt hC 0
  have h8 := hO.2.1
  iterate 3 refine Wp.go rfl ?_
  refine Wp.go (if_pos ⟨rfl, rfl, (inE (n := 30) hx (by first | omega | (have := (hnu (by omega)).2; omega) | (have := hn7 (by omega); omega)))⟩) ?_
  iterate 4 refine Wp.go rfl ?_
  refine Wp.go (if_pos ⟨rfl, rfl, (inE (n := 30) hx (by first | omega | (have := (hnu (by omega)).2; omega) | (have := hn7 (by omega); omega)))⟩) ?_
  iterate 4 refine Wp.go rfl ?_
  refine Wp.neN (a := 18) (b := 3) (rdE hx (by first | omega | (have := (hnu (by omega)).2; omega) | (have := hn7 (by omega); omega)) (((hP.o (cs := [181]) (fs := [20]) (mo.rf)).op (by omega)).trans (congrArg nI ho))) (rfl : _ = nI 3) (by decide) (by decide) (fun _ => ?_) (fun q => absurd q (by decide))
  iterate 3 refine Wp.go rfl ?_
  refine Wp.eqN (a := 18) (b := 5) (rdE hx (by first | omega | (have := (hnu (by omega)).2; omega) | (have := hn7 (by omega); omega)) (((hP.o (cs := [181]) (fs := [20]) (mo.rf)).op (by omega)).trans (congrArg nI ho))) (rfl : _ = nI 5) (by decide) (by decide) (fun q => absurd q (by decide)) (fun _ => ?_)
  iterate 3 refine Wp.go rfl ?_
  refine Wp.eqN (a := 18) (b := 9) (rdE hx (by first | omega | (have := (hnu (by omega)).2; omega) | (have := hn7 (by omega); omega)) (((hP.o (cs := [181]) (fs := [20]) (mo.rf)).op (by omega)).trans (congrArg nI ho))) (rfl : _ = nI 9) (by decide) (by decide) (fun q => absurd q (by decide)) (fun _ => ?_)
  iterate 3 refine Wp.go rfl ?_
  refine Wp.neN (a := 18) (b := 13) (rdE hx (by first | omega | (have := (hnu (by omega)).2; omega) | (have := hn7 (by omega); omega)) (((hP.o (cs := [181]) (fs := [20]) (mo.rf)).op (by omega)).trans (congrArg nI ho))) (rfl : _ = nI 13) (by decide) (by decide) (fun _ => ?_) (fun q => absurd q (by decide))
  iterate 5 refine Wp.go rfl ?_
  refine Wp.neN (a := 18) (b := 12) (rdE hx (by first | omega | (have := (hnu (by omega)).2; omega) | (have := hn7 (by omega); omega)) (((hP.o (cs := [181]) (fs := [20]) (mo.rf)).op (by omega)).trans (congrArg nI ho))) (rfl : _ = nI 12) (by decide) (by decide) (fun _ => ?_) (fun q => absurd q (by decide))
  iterate 4 refine Wp.go rfl ?_
  refine Wp.call rfl cqX12_takes (sX12_takes (rdE hx (by first | omega | (have := (hnu (by omega)).2; omega) | (have := hn7 (by omega); omega)) (((hP.o (cs := [181]) (fs := [20]) (mo.rf)).op (by omega)).trans (congrArg nI ho))) (by decide)) (fun rv1 s1 hq1 => ?_)
  obtain ⟨rfl, hq1⟩ := hq1
  replace hq1 := hq1.symm
  subst hq1
  refine Wp.go rfl ?_
  refine Wp.go rfl ?_
  iterate 2 refine Wp.go rfl ?_
  refine Wp.swO (rdE hx (by first | omega | (have := (hnu (by omega)).2; omega) | (have := hn7 (by omega); omega)) (((hP.o (cs := [181]) (fs := [20]) (mo.rf)).op (by omega)).trans (congrArg nI ho))) (by decide) (by decide) ?_
  refine Wp.ret rfl ?_
  refine ⟨rfl, ?_, (mo.rf).tr (mo.f (c := 20) _ (by decide) _)⟩
  rw [wk18]
  exact (hC).h (nE_sub (hC).1 rfl (by first | omega | (have := (hnu (by omega)).2; omega) | (have := hn7 (by omega); omega))) (by first | omega | exact Nat.sub_le _ _)
set_option maxRecDepth 100000 in
theorem sX12_work_19 {P : pT} {T : tT} {c : cS} {σ : mc_G} (hC : mHd c σ) (hP : cMP P σ) (hN : pNum P) (hY : pTy P T) (hO : tOk T) {x : Int32} {i : Nat} (hx : x = nI i) (hi : i < pn P) (hn : pn P ≤ 30) (hg : gC P T c) (hsu : suA T (opA P i) (nuN P i) c = true) (ho : opA P i = 19) (htk : tkA 19 ≤ c.1) (hfi : c.1 - tkA 19 + gvA 19 ≤ 6) : Wp miX12_work 0 [(0, .inr (some 167)), (1, .inl x)] [] σ (fun rv σ' => rv = none ∧ mHd (wkA (opA P i) (nuN P i) i (tyA P c) c) σ' ∧ mo [181] [20] σ σ') := by
  have h6 := hC.2.1
  have hnu := fun q => hN.1 i q
  have hn7 := fun q => hN.2.1 i q
  have hty := fun q => hY.1 i q
  have h13 := fun q => gC_13 hY hO hg (k := i) q hsu
  rw [ho] at hnu hn7 hty h13 hsu ⊢
  have htk : 0 ≤ c.1 := htk
  have hfi : c.1 - 0 + 0 ≤ 6 := hfi
  have m0 := mtp_lt hC 0
  have h8 := hO.2.1
  iterate 3 refine Wp.go rfl ?_
  refine Wp.go (if_pos ⟨rfl, rfl, (inE (n := 30) hx (by first | omega | (have := (hnu (by omega)).2; omega) | (have := hn7 (by omega); omega)))⟩) ?_
  iterate 4 refine Wp.go rfl ?_
  refine Wp.go (if_pos ⟨rfl, rfl, (inE (n := 30) hx (by first | omega | (have := (hnu (by omega)).2; omega) | (have := hn7 (by omega); omega)))⟩) ?_
  iterate 4 refine Wp.go rfl ?_
  refine Wp.neN (a := 19) (b := 3) (rdE hx (by first | omega | (have := (hnu (by omega)).2; omega) | (have := hn7 (by omega); omega)) (((hP.o (cs := [181]) (fs := [20]) (mo.rf)).op (by omega)).trans (congrArg nI ho))) (rfl : _ = nI 3) (by decide) (by decide) (fun _ => ?_) (fun q => absurd q (by decide))
  iterate 3 refine Wp.go rfl ?_
  refine Wp.eqN (a := 19) (b := 5) (rdE hx (by first | omega | (have := (hnu (by omega)).2; omega) | (have := hn7 (by omega); omega)) (((hP.o (cs := [181]) (fs := [20]) (mo.rf)).op (by omega)).trans (congrArg nI ho))) (rfl : _ = nI 5) (by decide) (by decide) (fun q => absurd q (by decide)) (fun _ => ?_)
  iterate 3 refine Wp.go rfl ?_
  refine Wp.eqN (a := 19) (b := 9) (rdE hx (by first | omega | (have := (hnu (by omega)).2; omega) | (have := hn7 (by omega); omega)) (((hP.o (cs := [181]) (fs := [20]) (mo.rf)).op (by omega)).trans (congrArg nI ho))) (rfl : _ = nI 9) (by decide) (by decide) (fun q => absurd q (by decide)) (fun _ => ?_)
  iterate 3 refine Wp.go rfl ?_
  refine Wp.neN (a := 19) (b := 13) (rdE hx (by first | omega | (have := (hnu (by omega)).2; omega) | (have := hn7 (by omega); omega)) (((hP.o (cs := [181]) (fs := [20]) (mo.rf)).op (by omega)).trans (congrArg nI ho))) (rfl : _ = nI 13) (by decide) (by decide) (fun _ => ?_) (fun q => absurd q (by decide))
  iterate 5 refine Wp.go rfl ?_
  refine Wp.neN (a := 19) (b := 12) (rdE hx (by first | omega | (have := (hnu (by omega)).2; omega) | (have := hn7 (by omega); omega)) (((hP.o (cs := [181]) (fs := [20]) (mo.rf)).op (by omega)).trans (congrArg nI ho))) (rfl : _ = nI 12) (by decide) (by decide) (fun _ => ?_) (fun q => absurd q (by decide))
  iterate 4 refine Wp.go rfl ?_
  refine Wp.call rfl cqX12_takes (sX12_takes (rdE hx (by first | omega | (have := (hnu (by omega)).2; omega) | (have := hn7 (by omega); omega)) (((hP.o (cs := [181]) (fs := [20]) (mo.rf)).op (by omega)).trans (congrArg nI ho))) (by decide)) (fun rv1 s1 hq1 => ?_)
  obtain ⟨rfl, hq1⟩ := hq1
  replace hq1 := hq1.symm
  subst hq1
  refine Wp.go rfl ?_
  refine Wp.go rfl ?_
  iterate 2 refine Wp.go rfl ?_
  refine Wp.swO (rdE hx (by first | omega | (have := (hnu (by omega)).2; omega) | (have := hn7 (by omega); omega)) (((hP.o (cs := [181]) (fs := [20]) (mo.rf)).op (by omega)).trans (congrArg nI ho))) (by decide) (by decide) ?_
  refine Wp.ret rfl ?_
  refine ⟨rfl, ?_, (mo.rf).tr (mo.f (c := 20) _ (by decide) _)⟩
  rw [wk19]
  exact (hC).h (nE_sub (hC).1 rfl (by first | omega | (have := (hnu (by omega)).2; omega) | (have := hn7 (by omega); omega))) (by first | omega | exact Nat.sub_le _ _)
set_option maxRecDepth 100000 in
theorem sX12_work_20 {P : pT} {T : tT} {c : cS} {σ : mc_G} (hC : mHd c σ) (hP : cMP P σ) (hN : pNum P) (hY : pTy P T) (hO : tOk T) {x : Int32} {i : Nat} (hx : x = nI i) (hi : i < pn P) (hn : pn P ≤ 30) (hg : gC P T c) (hsu : suA T (opA P i) (nuN P i) c = true) (ho : opA P i = 20) (htk : tkA 20 ≤ c.1) (hfi : c.1 - tkA 20 + gvA 20 ≤ 6) : Wp miX12_work 0 [(0, .inr (some 167)), (1, .inl x)] [] σ (fun rv σ' => rv = none ∧ mHd (wkA (opA P i) (nuN P i) i (tyA P c) c) σ' ∧ mo [181] [20] σ σ') := by
  have h6 := hC.2.1
  have hnu := fun q => hN.1 i q
  have hn7 := fun q => hN.2.1 i q
  have hty := fun q => hY.1 i q
  have h13 := fun q => gC_13 hY hO hg (k := i) q hsu
  rw [ho] at hnu hn7 hty h13 hsu ⊢
  have htk : 1 ≤ c.1 := htk
  have hfi : c.1 - 1 + 0 ≤ 6 := hfi
  have m0 := mtp_lt hC 0
  have h8 := hO.2.1
  iterate 3 refine Wp.go rfl ?_
  refine Wp.go (if_pos ⟨rfl, rfl, (inE (n := 30) hx (by first | omega | (have := (hnu (by omega)).2; omega) | (have := hn7 (by omega); omega)))⟩) ?_
  iterate 4 refine Wp.go rfl ?_
  refine Wp.go (if_pos ⟨rfl, rfl, (inE (n := 30) hx (by first | omega | (have := (hnu (by omega)).2; omega) | (have := hn7 (by omega); omega)))⟩) ?_
  iterate 4 refine Wp.go rfl ?_
  refine Wp.neN (a := 20) (b := 3) (rdE hx (by first | omega | (have := (hnu (by omega)).2; omega) | (have := hn7 (by omega); omega)) (((hP.o (cs := [181]) (fs := [20]) (mo.rf)).op (by omega)).trans (congrArg nI ho))) (rfl : _ = nI 3) (by decide) (by decide) (fun _ => ?_) (fun q => absurd q (by decide))
  iterate 3 refine Wp.go rfl ?_
  refine Wp.eqN (a := 20) (b := 5) (rdE hx (by first | omega | (have := (hnu (by omega)).2; omega) | (have := hn7 (by omega); omega)) (((hP.o (cs := [181]) (fs := [20]) (mo.rf)).op (by omega)).trans (congrArg nI ho))) (rfl : _ = nI 5) (by decide) (by decide) (fun q => absurd q (by decide)) (fun _ => ?_)
  iterate 3 refine Wp.go rfl ?_
  refine Wp.eqN (a := 20) (b := 9) (rdE hx (by first | omega | (have := (hnu (by omega)).2; omega) | (have := hn7 (by omega); omega)) (((hP.o (cs := [181]) (fs := [20]) (mo.rf)).op (by omega)).trans (congrArg nI ho))) (rfl : _ = nI 9) (by decide) (by decide) (fun q => absurd q (by decide)) (fun _ => ?_)
  iterate 3 refine Wp.go rfl ?_
  refine Wp.neN (a := 20) (b := 13) (rdE hx (by first | omega | (have := (hnu (by omega)).2; omega) | (have := hn7 (by omega); omega)) (((hP.o (cs := [181]) (fs := [20]) (mo.rf)).op (by omega)).trans (congrArg nI ho))) (rfl : _ = nI 13) (by decide) (by decide) (fun _ => ?_) (fun q => absurd q (by decide))
  iterate 5 refine Wp.go rfl ?_
  refine Wp.neN (a := 20) (b := 12) (rdE hx (by first | omega | (have := (hnu (by omega)).2; omega) | (have := hn7 (by omega); omega)) (((hP.o (cs := [181]) (fs := [20]) (mo.rf)).op (by omega)).trans (congrArg nI ho))) (rfl : _ = nI 12) (by decide) (by decide) (fun _ => ?_) (fun q => absurd q (by decide))
  iterate 4 refine Wp.go rfl ?_
  refine Wp.call rfl cqX12_takes (sX12_takes (rdE hx (by first | omega | (have := (hnu (by omega)).2; omega) | (have := hn7 (by omega); omega)) (((hP.o (cs := [181]) (fs := [20]) (mo.rf)).op (by omega)).trans (congrArg nI ho))) (by decide)) (fun rv1 s1 hq1 => ?_)
  obtain ⟨rfl, hq1⟩ := hq1
  replace hq1 := hq1.symm
  subst hq1
  refine Wp.go rfl ?_
  refine Wp.go rfl ?_
  iterate 2 refine Wp.go rfl ?_
  refine Wp.swO (rdE hx (by first | omega | (have := (hnu (by omega)).2; omega) | (have := hn7 (by omega); omega)) (((hP.o (cs := [181]) (fs := [20]) (mo.rf)).op (by omega)).trans (congrArg nI ho))) (by decide) (by decide) ?_
  refine Wp.ret rfl ?_
  refine ⟨rfl, ?_, (mo.rf).tr (mo.f (c := 20) _ (by decide) _)⟩
  rw [wk20]
  exact (hC).h (nE_sub (hC).1 rfl (by first | omega | (have := (hnu (by omega)).2; omega) | (have := hn7 (by omega); omega))) (by first | omega | exact Nat.sub_le _ _)
set_option maxRecDepth 100000 in
theorem sX12_work {P : pT} {T : tT} {c : cS} {σ : mc_G} (hC : mHd c σ) (hP : cMP P σ) (hN : pNum P) (hY : pTy P T) (hO : tOk T) {x : Int32} {i : Nat} (hx : x = nI i) (hi : i < pn P) (hn : pn P ≤ 30) (hg : gC P T c) (h20 : opA P i ≤ 20) (hsu : suA T (opA P i) (nuN P i) c = true) (htk : tkA (opA P i) ≤ c.1) (hfi : c.1 - tkA (opA P i) + gvA (opA P i) ≤ 6) : Wp miX12_work 0 [(0, .inr (some 167)), (1, .inl x)] [] σ (fun rv σ' => rv = none ∧ mHd (wkA (opA P i) (nuN P i) i (tyA P c) c) σ' ∧ mo [181] [20] σ σ') := by
  have hc : opA P i = 0 ∨ opA P i = 1 ∨ opA P i = 2 ∨ opA P i = 3 ∨ opA P i = 4 ∨ opA P i = 5 ∨ opA P i = 6 ∨ opA P i = 7 ∨ opA P i = 8 ∨ opA P i = 9 ∨ opA P i = 10 ∨ opA P i = 11 ∨ opA P i = 12 ∨ opA P i = 13 ∨ opA P i = 14 ∨ opA P i = 15 ∨ opA P i = 16 ∨ opA P i = 17 ∨ opA P i = 18 ∨ opA P i = 19 ∨ opA P i = 20 := by omega
  rcases hc with ho | ho | ho | ho | ho | ho | ho | ho | ho | ho | ho | ho | ho | ho | ho | ho | ho | ho | ho | ho | ho
  · exact sX12_work_0 hC hP hN hY hO hx hi hn hg hsu ho (by rw [ho] at htk; exact htk) (by rw [ho] at hfi; exact hfi)
  · exact sX12_work_1 hC hP hN hY hO hx hi hn hg hsu ho (by rw [ho] at htk; exact htk) (by rw [ho] at hfi; exact hfi)
  · exact sX12_work_2 hC hP hN hY hO hx hi hn hg hsu ho (by rw [ho] at htk; exact htk) (by rw [ho] at hfi; exact hfi)
  · exact sX12_work_3 hC hP hN hY hO hx hi hn hg hsu ho (by rw [ho] at htk; exact htk) (by rw [ho] at hfi; exact hfi)
  · exact sX12_work_4 hC hP hN hY hO hx hi hn hg hsu ho (by rw [ho] at htk; exact htk) (by rw [ho] at hfi; exact hfi)
  · exact sX12_work_5 hC hP hN hY hO hx hi hn hg hsu ho (by rw [ho] at htk; exact htk) (by rw [ho] at hfi; exact hfi)
  · exact sX12_work_6 hC hP hN hY hO hx hi hn hg hsu ho (by rw [ho] at htk; exact htk) (by rw [ho] at hfi; exact hfi)
  · exact sX12_work_7 hC hP hN hY hO hx hi hn hg hsu ho (by rw [ho] at htk; exact htk) (by rw [ho] at hfi; exact hfi)
  · exact sX12_work_8 hC hP hN hY hO hx hi hn hg hsu ho (by rw [ho] at htk; exact htk) (by rw [ho] at hfi; exact hfi)
  · exact sX12_work_9 hC hP hN hY hO hx hi hn hg hsu ho (by rw [ho] at htk; exact htk) (by rw [ho] at hfi; exact hfi)
  · exact sX12_work_10 hC hP hN hY hO hx hi hn hg hsu ho (by rw [ho] at htk; exact htk) (by rw [ho] at hfi; exact hfi)
  · exact sX12_work_11 hC hP hN hY hO hx hi hn hg hsu ho (by rw [ho] at htk; exact htk) (by rw [ho] at hfi; exact hfi)
  · exact sX12_work_12 hC hP hN hY hO hx hi hn hg hsu ho (by rw [ho] at htk; exact htk) (by rw [ho] at hfi; exact hfi)
  · exact sX12_work_13 hC hP hN hY hO hx hi hn hg hsu ho (by rw [ho] at htk; exact htk) (by rw [ho] at hfi; exact hfi)
  · exact sX12_work_14 hC hP hN hY hO hx hi hn hg hsu ho (by rw [ho] at htk; exact htk) (by rw [ho] at hfi; exact hfi)
  · exact sX12_work_15 hC hP hN hY hO hx hi hn hg hsu ho (by rw [ho] at htk; exact htk) (by rw [ho] at hfi; exact hfi)
  · exact sX12_work_16 hC hP hN hY hO hx hi hn hg hsu ho (by rw [ho] at htk; exact htk) (by rw [ho] at hfi; exact hfi)
  · exact sX12_work_17 hC hP hN hY hO hx hi hn hg hsu ho (by rw [ho] at htk; exact htk) (by rw [ho] at hfi; exact hfi)
  · exact sX12_work_18 hC hP hN hY hO hx hi hn hg hsu ho (by rw [ho] at htk; exact htk) (by rw [ho] at hfi; exact hfi)
  · exact sX12_work_19 hC hP hN hY hO hx hi hn hg hsu ho (by rw [ho] at htk; exact htk) (by rw [ho] at hfi; exact hfi)
  · exact sX12_work_20 hC hP hN hY hO hx hi hn hg hsu ho (by rw [ho] at htk; exact htk) (by rw [ho] at hfi; exact hfi)
set_option maxRecDepth 100000 in
theorem lX12_takeUp179 {i h : Nat} {f : Nat → Nat} (hi : i < 30) (h6 : h ≤ 6) {x y : Int32} (hx : x = nI i) (hy : y = nI h) : ∀ (n k : Nat) (z : Int32) (σ : mc_G), z = nI k → k ≤ 8 + h → 8 + h - k < n → (∀ j, j < 8 + h → σ 179 (14 * i + j) = nI (f j) ∧ f j < 300) → arP 181 k f σ → Wp miX12_takeUp 3 [(0, .inr (some 167)), (1, .inr (some 179)), (2, .inl x), (3, .inl y), (4, .inl z)] [] σ (fun rv σ' => rv = none ∧ mHd (h, f) σ' ∧ mo [181] [20] σ σ') := by
  intro n
  induction n with
  | zero => intro k z σ hz hi h; omega
  | succ n ih =>
    intro k z σ hz hk hn hR hA
    iterate 5 refine Wp.go rfl ?_
    refine Wp.geN (a := k) (b := 8 + h) hz (nE_add (rfl : _ = nI 8) hy) (by omega) (by omega) (fun (h1 : ¬ k < 8 + h) => ?_) (fun (h1 : k < 8 + h) => ?_)
    · iterate 2 refine Wp.go rfl ?_
      refine Wp.go rfl ?_
      refine Wp.ret rfl ?_
      refine ⟨rfl, ⟨up_20 hy, h6, fun j hj => ?_⟩, mo.f _ (by decide) _⟩
      rw [mc_upn _ _ _ (by decide)]
      have hj2 : j < 8 + h := hj
      exact hA j (by omega)
    · iterate 9 refine Wp.go rfl ?_
      refine Wp.go (if_pos ⟨rfl, rfl, (inE (n := 420) (nE_add (nE_mul (rfl : _ = nI 14) hx) hz) (by omega))⟩) ?_
      refine Wp.go (if_pos ⟨(show 181 < 187 by decide), rfl, (inE (n := 14) hz (by omega))⟩) ?_
      iterate 2 refine Wp.go rfl ?_
      refine Wp.lo (lo := [(0, .inr (some 167)), (1, .inr (some 179)), (2, .inl _), (3, .inl _), (4, .inl _)]) ⟨rfl, rfl, rfl, rfl, rfl, trivial⟩ ?_
      refine (ih (k + 1) _ _ (nE_add hz (rfl : _ = nI 1)) (by omega) (by omega) (fun j hj => by rw [mc_upn _ _ _ (by decide)]; exact hR j hj) (fun j hj => ?_)).mono (fun rv σ2 q => ⟨q.1, q.2.1, (mo.a _ (by decide) (by decide) _ _).tr q.2.2⟩)
      rw [clE hz (by omega), upj]
      by_cases e : j = k
      · rw [if_pos e, e]; exact ⟨rdE (nE_add (nE_mul (rfl : _ = nI 14) hx) hz) (by omega) (hR k (by omega)).1, (hR k (by omega)).2⟩
      · rw [if_neg e]; exact hA j (by omega)
set_option maxRecDepth 100000 in
theorem sX12_takeUp179 {i h : Nat} {f : Nat → Nat} {σ : mc_G} {x y : Int32} (hx : x = nI i) (hi : i < 30) (hy : y = nI h) (h6 : h ≤ 6) (hR : ∀ j, j < 8 + h → σ 179 (14 * i + j) = nI (f j) ∧ f j < 300) : Wp miX12_takeUp 0 [(0, .inr (some 167)), (1, .inr (some 179)), (2, .inl x), (3, .inl y)] [] σ (fun rv σ' => rv = none ∧ mHd (h, f) σ' ∧ mo [181] [20] σ σ') := by
  iterate 2 refine Wp.go rfl ?_
  refine Wp.lo (lo := [(0, .inr (some 167)), (1, .inr (some 179)), (2, .inl _), (3, .inl _), (4, .inl _)]) ⟨rfl, rfl, rfl, rfl, rfl, trivial⟩ ?_
  exact lX12_takeUp179 hi h6 hx hy (8 + h + 1) 0 _ σ (rfl : _ = nI 0) (by omega) (by omega) hR (fun j hj => by omega)
set_option maxRecDepth 100000 in
theorem lX12_takeUp183 {i h : Nat} {f : Nat → Nat} (hi : i < 30) (h6 : h ≤ 6) {x y : Int32} (hx : x = nI i) (hy : y = nI h) : ∀ (n k : Nat) (z : Int32) (σ : mc_G), z = nI k → k ≤ 8 + h → 8 + h - k < n → (∀ j, j < 8 + h → σ 183 (14 * i + j) = nI (f j) ∧ f j < 300) → arP 181 k f σ → Wp miX12_takeUp 3 [(0, .inr (some 167)), (1, .inr (some 183)), (2, .inl x), (3, .inl y), (4, .inl z)] [] σ (fun rv σ' => rv = none ∧ mHd (h, f) σ' ∧ mo [181] [20] σ σ') := by
  intro n
  induction n with
  | zero => intro k z σ hz hi h; omega
  | succ n ih =>
    intro k z σ hz hk hn hR hA
    iterate 5 refine Wp.go rfl ?_
    refine Wp.geN (a := k) (b := 8 + h) hz (nE_add (rfl : _ = nI 8) hy) (by omega) (by omega) (fun (h1 : ¬ k < 8 + h) => ?_) (fun (h1 : k < 8 + h) => ?_)
    · iterate 2 refine Wp.go rfl ?_
      refine Wp.go rfl ?_
      refine Wp.ret rfl ?_
      refine ⟨rfl, ⟨up_20 hy, h6, fun j hj => ?_⟩, mo.f _ (by decide) _⟩
      rw [mc_upn _ _ _ (by decide)]
      have hj2 : j < 8 + h := hj
      exact hA j (by omega)
    · iterate 9 refine Wp.go rfl ?_
      refine Wp.go (if_pos ⟨rfl, rfl, (inE (n := 420) (nE_add (nE_mul (rfl : _ = nI 14) hx) hz) (by omega))⟩) ?_
      refine Wp.go (if_pos ⟨(show 181 < 187 by decide), rfl, (inE (n := 14) hz (by omega))⟩) ?_
      iterate 2 refine Wp.go rfl ?_
      refine Wp.lo (lo := [(0, .inr (some 167)), (1, .inr (some 183)), (2, .inl _), (3, .inl _), (4, .inl _)]) ⟨rfl, rfl, rfl, rfl, rfl, trivial⟩ ?_
      refine (ih (k + 1) _ _ (nE_add hz (rfl : _ = nI 1)) (by omega) (by omega) (fun j hj => by rw [mc_upn _ _ _ (by decide)]; exact hR j hj) (fun j hj => ?_)).mono (fun rv σ2 q => ⟨q.1, q.2.1, (mo.a _ (by decide) (by decide) _ _).tr q.2.2⟩)
      rw [clE hz (by omega), upj]
      by_cases e : j = k
      · rw [if_pos e, e]; exact ⟨rdE (nE_add (nE_mul (rfl : _ = nI 14) hx) hz) (by omega) (hR k (by omega)).1, (hR k (by omega)).2⟩
      · rw [if_neg e]; exact hA j (by omega)
set_option maxRecDepth 100000 in
theorem sX12_takeUp183 {i h : Nat} {f : Nat → Nat} {σ : mc_G} {x y : Int32} (hx : x = nI i) (hi : i < 30) (hy : y = nI h) (h6 : h ≤ 6) (hR : ∀ j, j < 8 + h → σ 183 (14 * i + j) = nI (f j) ∧ f j < 300) : Wp miX12_takeUp 0 [(0, .inr (some 167)), (1, .inr (some 183)), (2, .inl x), (3, .inl y)] [] σ (fun rv σ' => rv = none ∧ mHd (h, f) σ' ∧ mo [181] [20] σ σ') := by
  iterate 2 refine Wp.go rfl ?_
  refine Wp.lo (lo := [(0, .inr (some 167)), (1, .inr (some 183)), (2, .inl _), (3, .inl _), (4, .inl _)]) ⟨rfl, rfl, rfl, rfl, rfl, trivial⟩ ?_
  exact lX12_takeUp183 hi h6 hx hy (8 + h + 1) 0 _ σ (rfl : _ = nI 0) (by omega) (by omega) hR (fun j hj => by omega)
def bN (b : Bool) : Nat := if b = true then 1 else 0
theorem bN_lt (b : Bool) : bN b < 2 ^ 31 := by cases b <;> decide
theorem sh_bit : ∀ m, m < 128 → ∀ h, h < 7 → (nI m >>> (nI h &&& 31)) &&& nI 1 = nI (bN (m.testBit h)) := by decide +kernel
set_option maxRecDepth 100000 in
theorem sX12_highOf {σ : mc_G} {x : Int32} {i m : Nat} (hx : x = nI i) (hi : i < 30) (hm : σ 177 i = nI m) (hm7 : m < 128) : Wp miX12_highOf 0 [(0, .inr (some 167)), (1, .inl x)] [] σ (fun rv σ' => rv = some (.inl (nI (hiO m))) ∧ σ' = σ) := by
  iterate 5 refine Wp.go rfl ?_
  refine Wp.geN (a := 0) (b := 6) (rfl : _ = nI 0) (rfl : _ = nI 6) (by decide) (by decide) (fun q => absurd q (by decide)) (fun _ => ?_)
  iterate 3 refine Wp.go rfl ?_
  refine Wp.go (if_pos ⟨rfl, rfl, (inE (n := 30) hx (by first | omega | exact bN_lt _))⟩) ?_
  iterate 5 refine Wp.go rfl ?_
  refine Wp.neN (a := bN (m.testBit 0)) (b := 0) ((iE_and (iE_shr (rdE hx (by first | omega | exact bN_lt _) hm) (rfl : _ = nI 0)) (rfl : _ = nI 1)).trans (sh_bit m hm7 0 (by decide))) (rfl : _ = nI 0) (by first | omega | exact bN_lt _) (by first | omega | exact bN_lt _) (fun (h2 : ¬ bN (m.testBit 0) = 0) => ?_) (fun (h2 : bN (m.testBit 0) = 0) => ?_)
  · refine Wp.go rfl ?_
    refine Wp.ret rfl ?_
    exact ⟨rvN (rfl : _ = nI 0) (by unfold hiO; simp_all [bN]), rfl⟩
  · iterate 5 refine Wp.go rfl ?_
    refine Wp.geN (a := 1) (b := 6) (rfl : _ = nI 1) (rfl : _ = nI 6) (by decide) (by decide) (fun q => absurd q (by decide)) (fun _ => ?_)
    iterate 3 refine Wp.go rfl ?_
    refine Wp.go (if_pos ⟨rfl, rfl, (inE (n := 30) hx (by first | omega | exact bN_lt _))⟩) ?_
    iterate 5 refine Wp.go rfl ?_
    refine Wp.neN (a := bN (m.testBit 1)) (b := 0) ((iE_and (iE_shr (rdE hx (by first | omega | exact bN_lt _) hm) (rfl : _ = nI 1)) (rfl : _ = nI 1)).trans (sh_bit m hm7 1 (by decide))) (rfl : _ = nI 0) (by first | omega | exact bN_lt _) (by first | omega | exact bN_lt _) (fun (h4 : ¬ bN (m.testBit 1) = 0) => ?_) (fun (h4 : bN (m.testBit 1) = 0) => ?_)
    · refine Wp.go rfl ?_
      refine Wp.ret rfl ?_
      exact ⟨rvN (rfl : _ = nI 1) (by unfold hiO; simp_all [bN]), rfl⟩
    · iterate 5 refine Wp.go rfl ?_
      refine Wp.geN (a := 2) (b := 6) (rfl : _ = nI 2) (rfl : _ = nI 6) (by decide) (by decide) (fun q => absurd q (by decide)) (fun _ => ?_)
      iterate 3 refine Wp.go rfl ?_
      refine Wp.go (if_pos ⟨rfl, rfl, (inE (n := 30) hx (by first | omega | exact bN_lt _))⟩) ?_
      iterate 5 refine Wp.go rfl ?_
      refine Wp.neN (a := bN (m.testBit 2)) (b := 0) ((iE_and (iE_shr (rdE hx (by first | omega | exact bN_lt _) hm) (rfl : _ = nI 2)) (rfl : _ = nI 1)).trans (sh_bit m hm7 2 (by decide))) (rfl : _ = nI 0) (by first | omega | exact bN_lt _) (by first | omega | exact bN_lt _) (fun (h6 : ¬ bN (m.testBit 2) = 0) => ?_) (fun (h6 : bN (m.testBit 2) = 0) => ?_)
      · refine Wp.go rfl ?_
        refine Wp.ret rfl ?_
        exact ⟨rvN (rfl : _ = nI 2) (by unfold hiO; simp_all [bN]), rfl⟩
      · iterate 5 refine Wp.go rfl ?_
        refine Wp.geN (a := 3) (b := 6) (rfl : _ = nI 3) (rfl : _ = nI 6) (by decide) (by decide) (fun q => absurd q (by decide)) (fun _ => ?_)
        iterate 3 refine Wp.go rfl ?_
        refine Wp.go (if_pos ⟨rfl, rfl, (inE (n := 30) hx (by first | omega | exact bN_lt _))⟩) ?_
        iterate 5 refine Wp.go rfl ?_
        refine Wp.neN (a := bN (m.testBit 3)) (b := 0) ((iE_and (iE_shr (rdE hx (by first | omega | exact bN_lt _) hm) (rfl : _ = nI 3)) (rfl : _ = nI 1)).trans (sh_bit m hm7 3 (by decide))) (rfl : _ = nI 0) (by first | omega | exact bN_lt _) (by first | omega | exact bN_lt _) (fun (h8 : ¬ bN (m.testBit 3) = 0) => ?_) (fun (h8 : bN (m.testBit 3) = 0) => ?_)
        · refine Wp.go rfl ?_
          refine Wp.ret rfl ?_
          exact ⟨rvN (rfl : _ = nI 3) (by unfold hiO; simp_all [bN]), rfl⟩
        · iterate 5 refine Wp.go rfl ?_
          refine Wp.geN (a := 4) (b := 6) (rfl : _ = nI 4) (rfl : _ = nI 6) (by decide) (by decide) (fun q => absurd q (by decide)) (fun _ => ?_)
          iterate 3 refine Wp.go rfl ?_
          refine Wp.go (if_pos ⟨rfl, rfl, (inE (n := 30) hx (by first | omega | exact bN_lt _))⟩) ?_
          iterate 5 refine Wp.go rfl ?_
          refine Wp.neN (a := bN (m.testBit 4)) (b := 0) ((iE_and (iE_shr (rdE hx (by first | omega | exact bN_lt _) hm) (rfl : _ = nI 4)) (rfl : _ = nI 1)).trans (sh_bit m hm7 4 (by decide))) (rfl : _ = nI 0) (by first | omega | exact bN_lt _) (by first | omega | exact bN_lt _) (fun (h10 : ¬ bN (m.testBit 4) = 0) => ?_) (fun (h10 : bN (m.testBit 4) = 0) => ?_)
          · refine Wp.go rfl ?_
            refine Wp.ret rfl ?_
            exact ⟨rvN (rfl : _ = nI 4) (by unfold hiO; simp_all [bN]), rfl⟩
          · iterate 5 refine Wp.go rfl ?_
            refine Wp.geN (a := 5) (b := 6) (rfl : _ = nI 5) (rfl : _ = nI 6) (by decide) (by decide) (fun q => absurd q (by decide)) (fun _ => ?_)
            iterate 3 refine Wp.go rfl ?_
            refine Wp.go (if_pos ⟨rfl, rfl, (inE (n := 30) hx (by first | omega | exact bN_lt _))⟩) ?_
            iterate 5 refine Wp.go rfl ?_
            refine Wp.neN (a := bN (m.testBit 5)) (b := 0) ((iE_and (iE_shr (rdE hx (by first | omega | exact bN_lt _) hm) (rfl : _ = nI 5)) (rfl : _ = nI 1)).trans (sh_bit m hm7 5 (by decide))) (rfl : _ = nI 0) (by first | omega | exact bN_lt _) (by first | omega | exact bN_lt _) (fun (h12 : ¬ bN (m.testBit 5) = 0) => ?_) (fun (h12 : bN (m.testBit 5) = 0) => ?_)
            · refine Wp.go rfl ?_
              refine Wp.ret rfl ?_
              exact ⟨rvN (rfl : _ = nI 5) (by unfold hiO; simp_all [bN]), rfl⟩
            · iterate 5 refine Wp.go rfl ?_
              refine Wp.geN (a := 6) (b := 6) (rfl : _ = nI 6) (rfl : _ = nI 6) (by decide) (by decide) (fun _ => ?_) (fun q => absurd q (by decide))
              refine Wp.go rfl ?_
              refine Wp.ret rfl ?_
              exact ⟨rvN (rfl : _ = nI 6) (by unfold hiO; simp_all [bN]), rfl⟩

theorem nfU_o {T : tT} {u v : Option Nat} (h : nfU T u v = true) : ∃ o, u = some o ∧ nfA T o v = true ∧ o ≤ 20 := by
  rcases u with _ | o
  · cases h
  · refine ⟨o, rfl, h, ?_⟩
    by_cases e : o ≤ 20
    · exact e
    · exfalso
      have h' : nfA T o v = true := h
      unfold nfA at h'
      rw [if_neg (by omega), if_neg (by omega), if_neg (by omega), if_neg (by omega), if_neg (by omega)] at h'
      simp at h'; omega
set_option maxRecDepth 100000 in
theorem sX11_op {K : kS} {σ : mc_G} (hK : cCls K σ) (hk : kOk K) {x y : Int32} {u v : Option Nat} (hu : oV x u) (hv : oV y v) : Wp miX11_op 0 [(0, .inr (some 0)), (1, .inl x), (2, .inl y)] [] σ (fun rv σ' => rv = some (.inl (opR K y u v).1) ∧ cCls (opR K y u v).2 σ' ∧ ofR 0 166 σ σ') := by
  iterate 3 refine Wp.go rfl ?_
  refine Wp.call rfl cqX11_isNumberFor (sX11_isNumberFor hK hk hu hv) (fun rv1 s1 hq1 => ?_)
  obtain ⟨rfl, hq1⟩ := hq1
  replace hq1 := hq1.symm
  subst hq1
  refine Wp.go rfl ?_
  refine Wp.beqE (b := nfU K.1 u v) rfl (fun h1 => ?_) (fun h1 => ?_)
  · have e1 : opR K y u v = (-2, K) := by
      rcases u with _ | o
      · rfl
      · show (if nfA K.1 o v = true then _ else _) = _
        rw [if_neg (by rw [show nfA K.1 o v = false from h1]; decide)]
    rw [e1]
    refine Wp.go rfl ?_
    refine Wp.ret rfl ?_
    exact ⟨rfl, hK, ofR.rf⟩
  · obtain ⟨o, rfl, ho, ho20⟩ := nfU_o h1
    iterate 5 refine Wp.go rfl ?_
    by_cases h30 : pn K.2.1 < 30
    · have e1 : opR K y (some o) v = (nI (pn K.2.1), kN (kP K (paO K.2.1 o y))) := by
        show (if _ then _ else _) = _
        rw [if_pos ho, if_pos h30]
      rw [e1]
      refine Wp.call rfl cqX1_add (sX1_add hK.2.1 hk.2.1 hu.1 h30) (fun rv2 s2 hq2 => ?_)
      obtain ⟨rfl, hP2, ho2⟩ := hq2
      refine Wp.call rfl cqX11_changed (sX11_changed rfl (by omega)) (fun rv3 s3 hq3 => ?_)
      obtain ⟨rfl, rfl⟩ := hq3
      refine Wp.go rfl ?_
      refine Wp.ret rfl ?_
      exact ⟨rfl, (hK.cod ho2.r hP2).kn, (ho2.r.wi (by decide) (by decide)).tr ((up_r _ _ _ _).wi (by decide) (by decide))⟩
    · have e1 : opR K y (some o) v = (-3, K) := by
        show (if _ then _ else _) = _
        rw [if_pos ho, if_neg h30]
      rw [e1]
      refine Wp.call rfl cqX1_add (sX1_add_full hK.2.1 hk.2.1 (by have := hk.2.1; omega)) (fun rv2 s2 hq2 => ?_)
      obtain ⟨rfl, hq2⟩ := hq2
      replace hq2 := hq2.symm
      subst hq2
      refine Wp.call rfl cqX11_changed (sX11_changed_n (by decide)) (fun rv3 s3 hq3 => ?_)
      obtain ⟨rfl, hq3⟩ := hq3
      replace hq3 := hq3.symm
      subst hq3
      refine Wp.go rfl ?_
      refine Wp.ret rfl ?_
      exact ⟨rfl, hK, ofR.rf⟩
set_option maxRecDepth 100000 in
theorem lX11_handler {K : kS} {σ : mc_G} (hK : cCls K σ) (hk : kOk K) {x y z t : Int32} {p q r e : Nat} (hx : x = nI p) (hy : y = nI q) (hz : z = nI r) (ht : t = nI e) (hg : ((p < q ∧ q ≤ 30) ∧ r < 30 ∧ e < tc K.1)) : Wp miX11_handler 43 [(0, .inr (some 0)), (1, .inl x), (2, .inl y), (3, .inl z), (4, .inl t)] [] σ (fun rv σ' => rv = some (.inl (hdR K (some p) (some q) (some r) (some e)).1) ∧ cCls (hdR K (some p) (some q) (some r) (some e)).2 σ' ∧ ofR 0 166 σ σ') := by
  iterate 7 refine Wp.go rfl ?_
  by_cases h4 : qn K.2.1 < 4
  · have e1 : hdR K (some p) (some q) (some r) (some e) = (nI (qn K.2.1), kN (kP K (paH K.2.1 p q r e))) := by
      show (if _ then _ else _) = _
      rw [if_pos hg, if_pos h4]
    rw [e1]
    refine Wp.call rfl cqX1_addHandler (sX1_addHandler hK.2.1 hk.2.1 hx hy hz ht h4) (fun rv2 s2 hq2 => ?_)
    obtain ⟨rfl, hP2, ho2⟩ := hq2
    refine Wp.call rfl cqX11_changed (sX11_changed rfl (by omega)) (fun rv3 s3 hq3 => ?_)
    obtain ⟨rfl, rfl⟩ := hq3
    refine Wp.ret rfl ?_
    exact ⟨rfl, (hK.cod ho2.r hP2).kn, (ho2.r.wi (by decide) (by decide)).tr ((up_r _ _ _ _).wi (by decide) (by decide))⟩
  · have e1 : hdR K (some p) (some q) (some r) (some e) = (-3, K) := by
      show (if _ then _ else _) = _
      rw [if_pos hg, if_neg h4]
    rw [e1]
    refine Wp.call rfl cqX1_addHandler (sX1_addHandler_full hK.2.1 hk.2.1 (by have := hk.2.1; omega)) (fun rv2 s2 hq2 => ?_)
    obtain ⟨rfl, hq2⟩ := hq2
    replace hq2 := hq2.symm
    subst hq2
    refine Wp.call rfl cqX11_changed (sX11_changed_n (by decide)) (fun rv3 s3 hq3 => ?_)
    obtain ⟨rfl, hq3⟩ := hq3
    replace hq3 := hq3.symm
    subst hq3
    refine Wp.ret rfl ?_
    exact ⟨rfl, hK, ofR.rf⟩
set_option maxRecDepth 100000 in
theorem sX11_handler {K : kS} {σ : mc_G} (hK : cCls K σ) (hk : kOk K) {x y z t : Int32} {u v w s : Option Nat} (hu : oV x u) (hv : oV y v) (hw : oV z w) (hs : oV t s) : Wp miX11_handler 0 [(0, .inr (some 0)), (1, .inl x), (2, .inl y), (3, .inl z), (4, .inl t)] [] σ (fun rv σ' => rv = some (.inl (hdR K u v w s).1) ∧ cCls (hdR K u v w s).2 σ' ∧ ofR 0 166 σ σ') := by
  rcases u with _ | p
  · have hx : x < 0 := hu
    rcases v with _ | q
    · have hy : y < 0 := hv
      rcases w with _ | r
      · have hz : z < 0 := hw
        rcases s with _ | e
        · have ht : t < 0 := hs
          iterate 2 refine Wp.go rfl ?_
          refine Wp.ltI (rfl : _ = x) (rfl : _ = nI 0) (fun _ => ?_) (fun q => absurd (neg_lt hx (by omega)) q)
          refine Wp.go rfl ?_
          refine Wp.ret rfl ?_
          exact ⟨rfl, hK, ofR.rf⟩
        · obtain ⟨ht, hle⟩ := hs
          iterate 2 refine Wp.go rfl ?_
          refine Wp.ltI (rfl : _ = x) (rfl : _ = nI 0) (fun _ => ?_) (fun q => absurd (neg_lt hx (by omega)) q)
          refine Wp.go rfl ?_
          refine Wp.ret rfl ?_
          exact ⟨rfl, hK, ofR.rf⟩
      · obtain ⟨hz, hlr⟩ := hw
        rcases s with _ | e
        · have ht : t < 0 := hs
          iterate 2 refine Wp.go rfl ?_
          refine Wp.ltI (rfl : _ = x) (rfl : _ = nI 0) (fun _ => ?_) (fun q => absurd (neg_lt hx (by omega)) q)
          refine Wp.go rfl ?_
          refine Wp.ret rfl ?_
          exact ⟨rfl, hK, ofR.rf⟩
        · obtain ⟨ht, hle⟩ := hs
          iterate 2 refine Wp.go rfl ?_
          refine Wp.ltI (rfl : _ = x) (rfl : _ = nI 0) (fun _ => ?_) (fun q => absurd (neg_lt hx (by omega)) q)
          refine Wp.go rfl ?_
          refine Wp.ret rfl ?_
          exact ⟨rfl, hK, ofR.rf⟩
    · obtain ⟨hy, hlq⟩ := hv
      rcases w with _ | r
      · have hz : z < 0 := hw
        rcases s with _ | e
        · have ht : t < 0 := hs
          iterate 2 refine Wp.go rfl ?_
          refine Wp.ltI (rfl : _ = x) (rfl : _ = nI 0) (fun _ => ?_) (fun q => absurd (neg_lt hx (by omega)) q)
          refine Wp.go rfl ?_
          refine Wp.ret rfl ?_
          exact ⟨rfl, hK, ofR.rf⟩
        · obtain ⟨ht, hle⟩ := hs
          iterate 2 refine Wp.go rfl ?_
          refine Wp.ltI (rfl : _ = x) (rfl : _ = nI 0) (fun _ => ?_) (fun q => absurd (neg_lt hx (by omega)) q)
          refine Wp.go rfl ?_
          refine Wp.ret rfl ?_
          exact ⟨rfl, hK, ofR.rf⟩
      · obtain ⟨hz, hlr⟩ := hw
        rcases s with _ | e
        · have ht : t < 0 := hs
          iterate 2 refine Wp.go rfl ?_
          refine Wp.ltI (rfl : _ = x) (rfl : _ = nI 0) (fun _ => ?_) (fun q => absurd (neg_lt hx (by omega)) q)
          refine Wp.go rfl ?_
          refine Wp.ret rfl ?_
          exact ⟨rfl, hK, ofR.rf⟩
        · obtain ⟨ht, hle⟩ := hs
          iterate 2 refine Wp.go rfl ?_
          refine Wp.ltI (rfl : _ = x) (rfl : _ = nI 0) (fun _ => ?_) (fun q => absurd (neg_lt hx (by omega)) q)
          refine Wp.go rfl ?_
          refine Wp.ret rfl ?_
          exact ⟨rfl, hK, ofR.rf⟩
  · obtain ⟨hx, hlp⟩ := hu
    rcases v with _ | q
    · have hy : y < 0 := hv
      rcases w with _ | r
      · have hz : z < 0 := hw
        rcases s with _ | e
        · have ht : t < 0 := hs
          iterate 2 refine Wp.go rfl ?_
          refine Wp.ltN (a := p) (b := 0) hx (rfl : _ = nI 0) (by omega) (by omega) (fun (h1 : p < 0) => ?_) (fun (h1 : ¬ p < 0) => ?_)
          · refine Wp.go rfl ?_
            refine Wp.ret rfl ?_
            exact ⟨rfl, hK, ofR.rf⟩
          · iterate 3 refine Wp.go rfl ?_
            refine Wp.gtI (rfl : _ = y) (rfl : _ = nI 30) (fun q => absurd q (neg_gt hy (by omega))) (fun _ => ?_)
            iterate 3 refine Wp.go rfl ?_
            refine Wp.ltI hx (rfl : _ = y) (fun q => absurd q (neg_gt hy (by omega))) (fun _ => ?_)
            refine Wp.go rfl ?_
            refine Wp.ret rfl ?_
            exact ⟨rfl, hK, ofR.rf⟩
        · obtain ⟨ht, hle⟩ := hs
          iterate 2 refine Wp.go rfl ?_
          refine Wp.ltN (a := p) (b := 0) hx (rfl : _ = nI 0) (by omega) (by omega) (fun (h1 : p < 0) => ?_) (fun (h1 : ¬ p < 0) => ?_)
          · refine Wp.go rfl ?_
            refine Wp.ret rfl ?_
            exact ⟨rfl, hK, ofR.rf⟩
          · iterate 3 refine Wp.go rfl ?_
            refine Wp.gtI (rfl : _ = y) (rfl : _ = nI 30) (fun q => absurd q (neg_gt hy (by omega))) (fun _ => ?_)
            iterate 3 refine Wp.go rfl ?_
            refine Wp.ltI hx (rfl : _ = y) (fun q => absurd q (neg_gt hy (by omega))) (fun _ => ?_)
            refine Wp.go rfl ?_
            refine Wp.ret rfl ?_
            exact ⟨rfl, hK, ofR.rf⟩
      · obtain ⟨hz, hlr⟩ := hw
        rcases s with _ | e
        · have ht : t < 0 := hs
          iterate 2 refine Wp.go rfl ?_
          refine Wp.ltN (a := p) (b := 0) hx (rfl : _ = nI 0) (by omega) (by omega) (fun (h1 : p < 0) => ?_) (fun (h1 : ¬ p < 0) => ?_)
          · refine Wp.go rfl ?_
            refine Wp.ret rfl ?_
            exact ⟨rfl, hK, ofR.rf⟩
          · iterate 3 refine Wp.go rfl ?_
            refine Wp.gtI (rfl : _ = y) (rfl : _ = nI 30) (fun q => absurd q (neg_gt hy (by omega))) (fun _ => ?_)
            iterate 3 refine Wp.go rfl ?_
            refine Wp.ltI hx (rfl : _ = y) (fun q => absurd q (neg_gt hy (by omega))) (fun _ => ?_)
            refine Wp.go rfl ?_
            refine Wp.ret rfl ?_
            exact ⟨rfl, hK, ofR.rf⟩
        · obtain ⟨ht, hle⟩ := hs
          iterate 2 refine Wp.go rfl ?_
          refine Wp.ltN (a := p) (b := 0) hx (rfl : _ = nI 0) (by omega) (by omega) (fun (h1 : p < 0) => ?_) (fun (h1 : ¬ p < 0) => ?_)
          · refine Wp.go rfl ?_
            refine Wp.ret rfl ?_
            exact ⟨rfl, hK, ofR.rf⟩
          · iterate 3 refine Wp.go rfl ?_
            refine Wp.gtI (rfl : _ = y) (rfl : _ = nI 30) (fun q => absurd q (neg_gt hy (by omega))) (fun _ => ?_)
            iterate 3 refine Wp.go rfl ?_
            refine Wp.ltI hx (rfl : _ = y) (fun q => absurd q (neg_gt hy (by omega))) (fun _ => ?_)
            refine Wp.go rfl ?_
            refine Wp.ret rfl ?_
            exact ⟨rfl, hK, ofR.rf⟩
    · obtain ⟨hy, hlq⟩ := hv
      rcases w with _ | r
      · have hz : z < 0 := hw
        rcases s with _ | e
        · have ht : t < 0 := hs
          iterate 2 refine Wp.go rfl ?_
          refine Wp.ltN (a := p) (b := 0) hx (rfl : _ = nI 0) (by omega) (by omega) (fun (h1 : p < 0) => ?_) (fun (h1 : ¬ p < 0) => ?_)
          · refine Wp.go rfl ?_
            refine Wp.ret rfl ?_
            exact ⟨rfl, hK, ofR.rf⟩
          · iterate 3 refine Wp.go rfl ?_
            refine Wp.gtN (a := q) (b := 30) hy (rfl : _ = nI 30) (by omega) (by omega) (fun (h2 : 30 < q) => ?_) (fun (h2 : ¬ 30 < q) => ?_)
            · refine Wp.go rfl ?_
              refine Wp.ret rfl ?_
              exact ⟨rfl, hK, ofR.rf⟩
            · iterate 3 refine Wp.go rfl ?_
              refine Wp.ltN (a := p) (b := q) hx hy (by omega) (by omega) (fun (h3 : p < q) => ?_) (fun (h3 : ¬ p < q) => ?_)
              · iterate 2 refine Wp.go rfl ?_
                refine Wp.ltI (rfl : _ = z) (rfl : _ = nI 0) (fun _ => ?_) (fun q => absurd (neg_lt hz (by omega)) q)
                refine Wp.go rfl ?_
                refine Wp.ret rfl ?_
                exact ⟨rfl, hK, ofR.rf⟩
              · refine Wp.go rfl ?_
                refine Wp.ret rfl ?_
                exact ⟨rfl, hK, ofR.rf⟩
        · obtain ⟨ht, hle⟩ := hs
          iterate 2 refine Wp.go rfl ?_
          refine Wp.ltN (a := p) (b := 0) hx (rfl : _ = nI 0) (by omega) (by omega) (fun (h1 : p < 0) => ?_) (fun (h1 : ¬ p < 0) => ?_)
          · refine Wp.go rfl ?_
            refine Wp.ret rfl ?_
            exact ⟨rfl, hK, ofR.rf⟩
          · iterate 3 refine Wp.go rfl ?_
            refine Wp.gtN (a := q) (b := 30) hy (rfl : _ = nI 30) (by omega) (by omega) (fun (h2 : 30 < q) => ?_) (fun (h2 : ¬ 30 < q) => ?_)
            · refine Wp.go rfl ?_
              refine Wp.ret rfl ?_
              exact ⟨rfl, hK, ofR.rf⟩
            · iterate 3 refine Wp.go rfl ?_
              refine Wp.ltN (a := p) (b := q) hx hy (by omega) (by omega) (fun (h3 : p < q) => ?_) (fun (h3 : ¬ p < q) => ?_)
              · iterate 2 refine Wp.go rfl ?_
                refine Wp.ltI (rfl : _ = z) (rfl : _ = nI 0) (fun _ => ?_) (fun q => absurd (neg_lt hz (by omega)) q)
                refine Wp.go rfl ?_
                refine Wp.ret rfl ?_
                exact ⟨rfl, hK, ofR.rf⟩
              · refine Wp.go rfl ?_
                refine Wp.ret rfl ?_
                exact ⟨rfl, hK, ofR.rf⟩
      · obtain ⟨hz, hlr⟩ := hw
        rcases s with _ | e
        · have ht : t < 0 := hs
          iterate 2 refine Wp.go rfl ?_
          refine Wp.ltN (a := p) (b := 0) hx (rfl : _ = nI 0) (by omega) (by omega) (fun (h1 : p < 0) => ?_) (fun (h1 : ¬ p < 0) => ?_)
          · refine Wp.go rfl ?_
            refine Wp.ret rfl ?_
            exact ⟨rfl, hK, ofR.rf⟩
          · iterate 3 refine Wp.go rfl ?_
            refine Wp.gtN (a := q) (b := 30) hy (rfl : _ = nI 30) (by omega) (by omega) (fun (h2 : 30 < q) => ?_) (fun (h2 : ¬ 30 < q) => ?_)
            · refine Wp.go rfl ?_
              refine Wp.ret rfl ?_
              exact ⟨rfl, hK, ofR.rf⟩
            · iterate 3 refine Wp.go rfl ?_
              refine Wp.ltN (a := p) (b := q) hx hy (by omega) (by omega) (fun (h3 : p < q) => ?_) (fun (h3 : ¬ p < q) => ?_)
              · iterate 2 refine Wp.go rfl ?_
                refine Wp.ltN (a := r) (b := 0) hz (rfl : _ = nI 0) (by omega) (by omega) (fun (h4 : r < 0) => ?_) (fun (h4 : ¬ r < 0) => ?_)
                · refine Wp.go rfl ?_
                  refine Wp.ret rfl ?_
                  exact ⟨rfl, hK, ofR.rf⟩
                · iterate 3 refine Wp.go rfl ?_
                  refine Wp.geN (a := r) (b := 30) hz (rfl : _ = nI 30) (by omega) (by omega) (fun (h5 : ¬ r < 30) => ?_) (fun (h5 : r < 30) => ?_)
                  · refine Wp.go rfl ?_
                    refine Wp.ret rfl ?_
                    exact ⟨rfl, hK, ofR.rf⟩
                  · iterate 3 refine Wp.go rfl ?_
                    refine Wp.call rfl cqX9_has (sX9_has_n hK.1 hk.1 ht) (fun rv1 s1 hq1 => ?_)
                    obtain ⟨rfl, hq1⟩ := hq1
                    replace hq1 := hq1.symm
                    subst hq1
                    refine Wp.go rfl ?_
                    refine Wp.bneE (b := false) rfl (fun q => by cases q) (fun _ => ?_)
                    refine Wp.go rfl ?_
                    refine Wp.ret rfl ?_
                    exact ⟨rfl, hK, ofR.rf⟩
              · refine Wp.go rfl ?_
                refine Wp.ret rfl ?_
                exact ⟨rfl, hK, ofR.rf⟩
        · obtain ⟨ht, hle⟩ := hs
          iterate 2 refine Wp.go rfl ?_
          refine Wp.ltN (a := p) (b := 0) hx (rfl : _ = nI 0) (by omega) (by omega) (fun (h1 : p < 0) => ?_) (fun (h1 : ¬ p < 0) => ?_)
          · refine Wp.go rfl ?_
            refine Wp.ret rfl ?_
            have e1 : hdR K (some p) (some q) (some r) (some e) = (-2, K) := by show (if _ then _ else _) = _; rw [if_neg (by omega)]
            rw [e1]
            exact ⟨rfl, hK, ofR.rf⟩
          · iterate 3 refine Wp.go rfl ?_
            refine Wp.gtN (a := q) (b := 30) hy (rfl : _ = nI 30) (by omega) (by omega) (fun (h2 : 30 < q) => ?_) (fun (h2 : ¬ 30 < q) => ?_)
            · refine Wp.go rfl ?_
              refine Wp.ret rfl ?_
              have e1 : hdR K (some p) (some q) (some r) (some e) = (-2, K) := by show (if _ then _ else _) = _; rw [if_neg (by omega)]
              rw [e1]
              exact ⟨rfl, hK, ofR.rf⟩
            · iterate 3 refine Wp.go rfl ?_
              refine Wp.ltN (a := p) (b := q) hx hy (by omega) (by omega) (fun (h3 : p < q) => ?_) (fun (h3 : ¬ p < q) => ?_)
              · iterate 2 refine Wp.go rfl ?_
                refine Wp.ltN (a := r) (b := 0) hz (rfl : _ = nI 0) (by omega) (by omega) (fun (h4 : r < 0) => ?_) (fun (h4 : ¬ r < 0) => ?_)
                · refine Wp.go rfl ?_
                  refine Wp.ret rfl ?_
                  have e1 : hdR K (some p) (some q) (some r) (some e) = (-2, K) := by show (if _ then _ else _) = _; rw [if_neg (by omega)]
                  rw [e1]
                  exact ⟨rfl, hK, ofR.rf⟩
                · iterate 3 refine Wp.go rfl ?_
                  refine Wp.geN (a := r) (b := 30) hz (rfl : _ = nI 30) (by omega) (by omega) (fun (h5 : ¬ r < 30) => ?_) (fun (h5 : r < 30) => ?_)
                  · refine Wp.go rfl ?_
                    refine Wp.ret rfl ?_
                    have e1 : hdR K (some p) (some q) (some r) (some e) = (-2, K) := by show (if _ then _ else _) = _; rw [if_neg (by omega)]
                    rw [e1]
                    exact ⟨rfl, hK, ofR.rf⟩
                  · iterate 3 refine Wp.go rfl ?_
                    refine Wp.call rfl cqX9_has (sX9_has hK.1 hk.1 ht (by omega)) (fun rv1 s1 hq1 => ?_)
                    obtain ⟨rfl, hq1⟩ := hq1
                    replace hq1 := hq1.symm
                    subst hq1
                    refine Wp.go rfl ?_
                    refine Wp.bneD (p := e < tc K.1) rfl (fun (h6 : e < tc K.1) => ?_) (fun (h6 : ¬ (e < tc K.1)) => ?_)
                    · exact lX11_handler hK hk hx hy hz ht (by omega)
                    · refine Wp.go rfl ?_
                      refine Wp.ret rfl ?_
                      have e1 : hdR K (some p) (some q) (some r) (some e) = (-2, K) := by show (if _ then _ else _) = _; rw [if_neg (by omega)]
                      rw [e1]
                      exact ⟨rfl, hK, ofR.rf⟩
              · refine Wp.go rfl ?_
                refine Wp.ret rfl ?_
                have e1 : hdR K (some p) (some q) (some r) (some e) = (-2, K) := by show (if _ then _ else _) = _; rw [if_neg (by omega)]
                rw [e1]
                exact ⟨rfl, hK, ofR.rf⟩
set_option maxRecDepth 100000 in
theorem sX11_told {K : kS} {σ : mc_G} (hK : cCls K σ) (hk : kOk K) {x : Int32} {u : Option Nat} (hu : oV x u) : Wp miX11_told 0 [(0, .inr (some 0)), (1, .inl x)] [] σ (fun rv σ' => rv = some (.inl (tdR K u)) ∧ cCls K σ' ∧ ofR 0 166 σ σ') := by
  rcases u with _ | p
  · have hx : x < 0 := hu
    iterate 2 refine Wp.go rfl ?_
    refine Wp.swN hx (by decide) ?_
    refine Wp.go rfl ?_
    refine Wp.ret rfl ?_
    exact ⟨rfl, hK, ofR.rf⟩
  · obtain ⟨hx, hlp⟩ := hu
    iterate 2 refine Wp.go rfl ?_
    by_cases hsw : 0 ≤ p ∧ p ≤ 4
    · have hsc : p = 0 ∨ p = 1 ∨ p = 2 ∨ p = 3 ∨ p = 4 := by omega
      rcases hsc with hsv | hsv | hsv | hsv | hsv
      · refine Wp.swI 0 hx (by omega) (by omega) (by omega) ?_
        iterate 2 refine Wp.go rfl ?_
        refine Wp.call rfl cqX9_count (sX9_count hK.1 hk.1) (fun rv1 s1 hq1 => ?_)
        obtain ⟨rfl, hq1⟩ := hq1
        replace hq1 := hq1.symm
        subst hq1
        refine Wp.ret rfl ?_
        have e1 : tdR K (some p) = nI (tc K.1) := by subst hsv; simp [tdR]
        exact ⟨by simp only [e1]; first | done | rfl, hK, ofR.rf⟩
      · refine Wp.swI 1 hx (by omega) (by omega) (by omega) ?_
        iterate 2 refine Wp.go rfl ?_
        refine Wp.call rfl cqX1_size (sX1_size hK.2.1 hk.2.1) (fun rv2 s2 hq2 => ?_)
        obtain ⟨rfl, hq2⟩ := hq2
        replace hq2 := hq2.symm
        subst hq2
        refine Wp.ret rfl ?_
        have e1 : tdR K (some p) = nI (pn K.2.1) := by subst hsv; simp [tdR]
        exact ⟨by simp only [e1]; first | done | rfl, hK, ofR.rf⟩
      · refine Wp.swI 2 hx (by omega) (by omega) (by omega) ?_
        iterate 2 refine Wp.go rfl ?_
        refine Wp.call rfl cqX1_handlers (sX1_handlers hK.2.1 hk.2.1) (fun rv3 s3 hq3 => ?_)
        obtain ⟨rfl, hq3⟩ := hq3
        replace hq3 := hq3.symm
        subst hq3
        refine Wp.ret rfl ?_
        have e1 : tdR K (some p) = nI (qn K.2.1) := by subst hsv; simp [tdR]
        exact ⟨by simp only [e1]; first | done | rfl, hK, ofR.rf⟩
      · refine Wp.swI 3 hx (by omega) (by omega) (by omega) ?_
        iterate 3 refine Wp.go rfl ?_
        refine Wp.beqE hK.2.2.2.2.2.2.2.2.1 (fun (h1 : K.2.2.2.2.2.2.1 = false) => ?_) (fun (h1 : K.2.2.2.2.2.2.1 = true) => ?_)
        · refine Wp.go rfl ?_
          refine Wp.ret rfl ?_
          have e1 : tdR K (some p) = 0 := by subst hsv; simp [tdR, h1]
          exact ⟨by simp only [e1]; first | done | rfl, hK, ofR.rf⟩
        · iterate 2 refine Wp.go rfl ?_
          refine Wp.call rfl cqX3_count (sX3_count hK.2.2.2.2.2.1) (fun rv4 s4 hq4 => ?_)
          obtain ⟨rfl, hq4⟩ := hq4
          replace hq4 := hq4.symm
          subst hq4
          refine Wp.go rfl ?_
          refine Wp.ret rfl ?_
          have e1 : tdR K (some p) = nI (K.2.2.2.2.1.2.2.2.2) := by subst hsv; simp [tdR, h1]
          exact ⟨by simp only [e1]; first | done | rfl, hK, ofR.rf⟩
      · refine Wp.swI 4 hx (by omega) (by omega) (by omega) ?_
        iterate 3 refine Wp.go rfl ?_
        refine Wp.beqE hK.2.2.2.2.2.2.2.2.1 (fun (h2 : K.2.2.2.2.2.2.1 = false) => ?_) (fun (h2 : K.2.2.2.2.2.2.1 = true) => ?_)
        · refine Wp.go rfl ?_
          refine Wp.ret rfl ?_
          have e1 : tdR K (some p) = 0 := by subst hsv; simp [tdR, h2]
          exact ⟨by simp only [e1]; first | done | rfl, hK, ofR.rf⟩
        · iterate 2 refine Wp.go rfl ?_
          refine Wp.call rfl cqX7_countReached (sX7_countReached hK.2.1 hk.2.1 hK.1 hk.1 hK.2.2.2.2.1) (fun rv5 s5 hq5 => ?_)
          obtain ⟨rfl, hq5⟩ := hq5
          replace hq5 := hq5.symm
          subst hq5
          refine Wp.go rfl ?_
          refine Wp.ret rfl ?_
          have e1 : tdR K (some p) = nI (foR (crS (pn K.2.1) K.2.2.2.1) (pn K.2.1) 0 0) := by subst hsv; simp [tdR, h2]
          exact ⟨by simp only [e1]; first | done | rfl, hK, ofR.rf⟩
    · refine Wp.swO hx (by omega) (by omega) ?_
      refine Wp.go rfl ?_
      refine Wp.ret rfl ?_
      have e1 : tdR K (some p) = -2 := by simp only [tdR]; rw [if_neg (by omega), if_neg (by omega), if_neg (by omega), if_neg (by omega), if_neg (by omega)]
      exact ⟨by simp only [e1]; first | done | rfl, hK, ofR.rf⟩
set_option maxRecDepth 100000 in
theorem sX11_frame {K : kS} {σ : mc_G} (hK : cCls K σ) (hk : kOk K) {x : Int32} {u : Option Nat} (hu : oV x u) : Wp miX11_frame 0 [(0, .inr (some 0)), (1, .inl x)] [] σ (fun rv σ' => rv = some (.inl (frR K u)) ∧ cCls K σ' ∧ ofR 0 166 σ σ') := by
  rcases u with _ | p
  · have hx : x < 0 := hu
    iterate 3 refine Wp.go rfl ?_
    refine Wp.beqE hK.2.2.2.2.2.2.2.2.1 (fun (h1 : K.2.2.2.2.2.2.1 = false) => ?_) (fun (h1 : K.2.2.2.2.2.2.1 = true) => ?_)
    · refine Wp.go rfl ?_
      refine Wp.ret rfl ?_
      exact ⟨rfl, hK, ofR.rf⟩
    · iterate 3 refine Wp.go rfl ?_
      refine Wp.call rfl cqX3_instructionOf (sX3_instructionOf_n hx) (fun rv1 s1 hq1 => ?_)
      obtain ⟨rfl, hq1⟩ := hq1
      replace hq1 := hq1.symm
      subst hq1
      refine Wp.go rfl ?_
      refine Wp.ret rfl ?_
      exact ⟨rfl, hK, ofR.rf⟩
  · obtain ⟨hx, hlp⟩ := hu
    iterate 3 refine Wp.go rfl ?_
    refine Wp.beqE hK.2.2.2.2.2.2.2.2.1 (fun (h1 : K.2.2.2.2.2.2.1 = false) => ?_) (fun (h1 : K.2.2.2.2.2.2.1 = true) => ?_)
    · refine Wp.go rfl ?_
      refine Wp.ret rfl ?_
      have e1 : frR K (some p) = -1 := by simp [frR, h1]
      exact ⟨by simp only [e1]; first | done | rfl, hK, ofR.rf⟩
    · iterate 3 refine Wp.go rfl ?_
      refine Wp.call rfl cqX3_instructionOf (sX3_instructionOf hK.2.2.2.2.2.1 hx (by omega)) (fun rv1 s1 hq1 => ?_)
      obtain ⟨rfl, hq1⟩ := hq1
      replace hq1 := hq1.symm
      subst hq1
      refine Wp.go rfl ?_
      refine Wp.ret rfl ?_
      have e1 : frR K (some p) = iuA K.2.2.2.2.1 p := by simp [frR, h1]
      exact ⟨by simp only [e1]; first | done | rfl, hK, ofR.rf⟩
set_option maxRecDepth 100000 in
theorem sX11_packed {K : kS} {σ : mc_G} (hK : cCls K σ) (hk : kOk K) : Wp miX11_packed 0 [(0, .inr (some 0))] [] σ (fun rv σ' => rv = some (.inl (pkR K)) ∧ cCls K σ' ∧ ofR 0 166 σ σ') := by
  iterate 3 refine Wp.go rfl ?_
  refine Wp.beqE (b := K.2.2.2.2.2.2.1) hK.2.2.2.2.2.2.2.2.1 (fun h1 => ?_) (fun h1 => ?_)
  · refine Wp.go rfl ?_
    refine Wp.ret rfl ?_
    refine ⟨?_, hK, ofR.rf⟩
    unfold pkR
    rw [if_neg (by rw [h1]; decide)]
    first | done | rfl
  · iterate 2 refine Wp.go rfl ?_
    refine Wp.call rfl cqX10_length (sX10_length hK.2.2.2.2.2.2.1.1) (fun rv1 s1 hq1 => ?_)
    obtain ⟨rfl, hq1⟩ := hq1
    replace hq1 := hq1.symm
    subst hq1
    refine Wp.go rfl ?_
    refine Wp.ret rfl ?_
    refine ⟨?_, hK, ofR.rf⟩
    unfold pkR
    rw [if_pos h1]
    first | done | rfl
theorem sX11_fault {K : kS} {σ : mc_G} (hK : cCls K σ) (hk : kOk K) : Wp miX11_fault 0 [(0, .inr (some 0))] [] σ (fun rv σ' => rv = some (.inl (nI K.2.2.2.2.2.2.2)) ∧ cCls K σ' ∧ ofR 0 166 σ σ') := by
  iterate 2 refine Wp.go rfl ?_
  refine Wp.ret rfl ?_
  exact ⟨rvN hK.2.2.2.2.2.2.2.2.2.1 rfl, hK, ofR.rf⟩

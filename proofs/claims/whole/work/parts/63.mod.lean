theorem nE_0a {x y : Int32} {k : Nat} (hx : x = nI 0) (hy : y = nI k) : x + y = nI k := by rw [nE_add hx hy, Nat.zero_add]
def arP (a L : Nat) (f : Nat → Nat) (σ : mc_G) : Prop := ∀ j, j < L → σ a j = nI (f j) ∧ f j < 300
theorem arP.u {a L : Nat} {f : Nat → Nat} {σ : mc_G} {x v : Int32} {k q : Nat} (h : arP a L f σ) (hx : x = nI k) (hk : k < 2 ^ 31) (hv : v = nI q) (hq : q < 300) : arP a L (va_up f k q) (mc_up σ a x.toNatClampNeg v) := by
  intro j hj
  rw [clE hx hk, upj]
  unfold va_up
  by_cases e : j = k
  · rw [if_pos e, if_pos e]; exact ⟨hv, hq⟩
  · rw [if_neg e, if_neg e]; exact h j hj
theorem arP.cg {a L : Nat} {f g : Nat → Nat} {σ : mc_G} (h : arP a L f σ) (e : ∀ j, j < L → g j = f j) : arP a L g σ := fun j hj => by rw [e j hj]; exact h j hj
theorem arP.o {a L : Nat} {f : Nat → Nat} {σ σ' : mc_G} {cs fs : List Nat} (h : arP a L f σ) (o : mo cs fs σ σ') (h1 : ¬ a ∈ cs) (h2 : a ≠ 167) : arP a L f σ' := by
  unfold arP; rw [o.1 a h2 h1]; exact h
set_option maxRecDepth 100000 in
theorem sX12_lay170 {L : Nat} {c : cS} {σ : mc_G} (hA : arP 170 L c.2 σ) (h8L : 8 ≤ L) (hL : L ≤ 8) (h7 : c.2 7 ≠ 2) (h0 : c.2 0 ≠ 3) {x y z : Int32} {p q : Nat} (hy0 : y = nI 0) (hx : x = nI p) (hp : p < 8) (hq : z = nI q) (hq3 : q < 300) : Wp miX12_lay 0 [(0, .inr (some 170)), (1, .inl y), (2, .inl x), (3, .inl z)] [] σ (fun rv σ' => rv = none ∧ arP 170 L (soA c p q).2 σ' ∧ mo [170] [] σ σ') := by
  have hb := (hA p (by omega)).2
  have hp7 : c.2 p = 2 → p < 7 := fun q => by rcases Nat.lt_or_ge p 7 with e | e; exact e; exact absurd (by rw [show 7 = p by omega]; exact q) h7
  have hp0 : c.2 p = 3 → 0 < p := fun q => by rcases Nat.eq_zero_or_pos p with e | e; exact absurd (by rw [← e]; exact q) h0; exact e
  iterate 4 refine Wp.go rfl ?_
  refine Wp.go (if_pos ⟨rfl, rfl, (inE (n := 8) (nE_0a hy0 hx) (by first | omega | grind))⟩) ?_
  iterate 4 refine Wp.go rfl ?_
  refine Wp.neN (a := c.2 p) (b := 2) (rdE (nE_0a hy0 hx) (by first | omega | grind) ((hA) p (by omega)).1) (rfl : _ = nI 2) (by first | omega | grind) (by first | omega | grind) (fun (h1 : ¬ c.2 p = 2) => ?_) (fun (h1 : c.2 p = 2) => ?_)
  · iterate 3 refine Wp.go rfl ?_
    refine Wp.neN (a := c.2 p) (b := 3) (rdE (nE_0a hy0 hx) (by first | omega | grind) ((hA) p (by omega)).1) (rfl : _ = nI 3) (by first | omega | grind) (by first | omega | grind) (fun (h2 : ¬ c.2 p = 3) => ?_) (fun (h2 : c.2 p = 3) => ?_)
    · iterate 5 refine Wp.go rfl ?_
      refine Wp.go (if_pos ⟨(show 170 < 187 by decide), rfl, (inE (n := 8) (nE_0a hy0 hx) (by first | omega | grind))⟩) ?_
      refine Wp.ret rfl ?_
      refine ⟨rfl, ((hA).u (nE_0a hy0 hx) (by omega) hq (by omega)).cg (fun j hj => ?_), (mo.rf).tr (mo.a _ (by decide) (by decide) _ _)⟩
      rw [soA_8 hp]
      simp only [va_up]
      grind
    · iterate 7 refine Wp.go rfl ?_
      refine Wp.go (if_pos ⟨(show 170 < 187 by decide), rfl, (inE (n := 8) (nE_sub (nE_0a hy0 hx) (rfl : _ = nI 1) (by first | omega | grind)) (by first | omega | grind))⟩) ?_
      iterate 5 refine Wp.go rfl ?_
      refine Wp.go (if_pos ⟨(show 170 < 187 by decide), rfl, (inE (n := 8) (nE_0a hy0 hx) (by first | omega | grind))⟩) ?_
      refine Wp.ret rfl ?_
      refine ⟨rfl, (((hA).u (nE_sub (nE_0a hy0 hx) (rfl : _ = nI 1) (by first | omega | grind)) (by omega) (rfl : _ = nI 0) (by omega)).u (nE_0a hy0 hx) (by omega) hq (by omega)).cg (fun j hj => ?_), ((mo.rf).tr (mo.a _ (by decide) (by decide) _ _)).tr (mo.a _ (by decide) (by decide) _ _)⟩
      rw [soA_8 hp]
      simp only [va_up]
      grind
  · iterate 7 refine Wp.go rfl ?_
    refine Wp.go (if_pos ⟨(show 170 < 187 by decide), rfl, (inE (n := 8) (nE_add (nE_0a hy0 hx) (rfl : _ = nI 1)) (by first | omega | grind))⟩) ?_
    iterate 3 refine Wp.go rfl ?_
    refine Wp.neN (a := c.2 p) (b := 3) (rdE (nE_0a hy0 hx) (by first | omega | grind) ((hA) p (by omega)).1) (rfl : _ = nI 3) (by first | omega | grind) (by first | omega | grind) (fun (h3 : ¬ c.2 p = 3) => ?_) (fun (h3 : c.2 p = 3) => ?_)
    · iterate 5 refine Wp.go rfl ?_
      refine Wp.go (if_pos ⟨(show 170 < 187 by decide), rfl, (inE (n := 8) (nE_0a hy0 hx) (by first | omega | grind))⟩) ?_
      refine Wp.ret rfl ?_
      refine ⟨rfl, (((hA).u (nE_add (nE_0a hy0 hx) (rfl : _ = nI 1)) (by omega) (rfl : _ = nI 0) (by omega)).u (nE_0a hy0 hx) (by omega) hq (by omega)).cg (fun j hj => ?_), ((mo.rf).tr (mo.a _ (by decide) (by decide) _ _)).tr (mo.a _ (by decide) (by decide) _ _)⟩
      rw [soA_8 hp]
      simp only [va_up]
      grind
    · iterate 7 refine Wp.go rfl ?_
      refine Wp.go (if_pos ⟨(show 170 < 187 by decide), rfl, (inE (n := 8) (nE_sub (nE_0a hy0 hx) (rfl : _ = nI 1) (by first | omega | grind)) (by first | omega | grind))⟩) ?_
      iterate 5 refine Wp.go rfl ?_
      refine Wp.go (if_pos ⟨(show 170 < 187 by decide), rfl, (inE (n := 8) (nE_0a hy0 hx) (by first | omega | grind))⟩) ?_
      refine Wp.ret rfl ?_
      refine ⟨rfl, ((((hA).u (nE_add (nE_0a hy0 hx) (rfl : _ = nI 1)) (by omega) (rfl : _ = nI 0) (by omega)).u (nE_sub (nE_0a hy0 hx) (rfl : _ = nI 1) (by first | omega | grind)) (by omega) (rfl : _ = nI 0) (by omega)).u (nE_0a hy0 hx) (by omega) hq (by omega)).cg (fun j hj => ?_), (((mo.rf).tr (mo.a _ (by decide) (by decide) _ _)).tr (mo.a _ (by decide) (by decide) _ _)).tr (mo.a _ (by decide) (by decide) _ _)⟩
      rw [soA_8 hp]
      simp only [va_up]
      grind
set_option maxRecDepth 100000 in
theorem sX12_lay181 {L : Nat} {c : cS} {σ : mc_G} (hA : arP 181 L c.2 σ) (h8L : 8 ≤ L) (hL : L ≤ 14) (h7 : c.2 7 ≠ 2) (h0 : c.2 0 ≠ 3) {x y z : Int32} {p q : Nat} (hy0 : y = nI 0) (hx : x = nI p) (hp : p < 8) (hq : z = nI q) (hq3 : q < 300) : Wp miX12_lay 0 [(0, .inr (some 181)), (1, .inl y), (2, .inl x), (3, .inl z)] [] σ (fun rv σ' => rv = none ∧ arP 181 L (soA c p q).2 σ' ∧ mo [181] [] σ σ') := by
  have hb := (hA p (by omega)).2
  have hp7 : c.2 p = 2 → p < 7 := fun q => by rcases Nat.lt_or_ge p 7 with e | e; exact e; exact absurd (by rw [show 7 = p by omega]; exact q) h7
  have hp0 : c.2 p = 3 → 0 < p := fun q => by rcases Nat.eq_zero_or_pos p with e | e; exact absurd (by rw [← e]; exact q) h0; exact e
  iterate 4 refine Wp.go rfl ?_
  refine Wp.go (if_pos ⟨rfl, rfl, (inE (n := 14) (nE_0a hy0 hx) (by first | omega | grind))⟩) ?_
  iterate 4 refine Wp.go rfl ?_
  refine Wp.neN (a := c.2 p) (b := 2) (rdE (nE_0a hy0 hx) (by first | omega | grind) ((hA) p (by omega)).1) (rfl : _ = nI 2) (by first | omega | grind) (by first | omega | grind) (fun (h1 : ¬ c.2 p = 2) => ?_) (fun (h1 : c.2 p = 2) => ?_)
  · iterate 3 refine Wp.go rfl ?_
    refine Wp.neN (a := c.2 p) (b := 3) (rdE (nE_0a hy0 hx) (by first | omega | grind) ((hA) p (by omega)).1) (rfl : _ = nI 3) (by first | omega | grind) (by first | omega | grind) (fun (h2 : ¬ c.2 p = 3) => ?_) (fun (h2 : c.2 p = 3) => ?_)
    · iterate 5 refine Wp.go rfl ?_
      refine Wp.go (if_pos ⟨(show 181 < 187 by decide), rfl, (inE (n := 14) (nE_0a hy0 hx) (by first | omega | grind))⟩) ?_
      refine Wp.ret rfl ?_
      refine ⟨rfl, ((hA).u (nE_0a hy0 hx) (by omega) hq (by omega)).cg (fun j hj => ?_), (mo.rf).tr (mo.a _ (by decide) (by decide) _ _)⟩
      rw [soA_8 hp]
      simp only [va_up]
      grind
    · iterate 7 refine Wp.go rfl ?_
      refine Wp.go (if_pos ⟨(show 181 < 187 by decide), rfl, (inE (n := 14) (nE_sub (nE_0a hy0 hx) (rfl : _ = nI 1) (by first | omega | grind)) (by first | omega | grind))⟩) ?_
      iterate 5 refine Wp.go rfl ?_
      refine Wp.go (if_pos ⟨(show 181 < 187 by decide), rfl, (inE (n := 14) (nE_0a hy0 hx) (by first | omega | grind))⟩) ?_
      refine Wp.ret rfl ?_
      refine ⟨rfl, (((hA).u (nE_sub (nE_0a hy0 hx) (rfl : _ = nI 1) (by first | omega | grind)) (by omega) (rfl : _ = nI 0) (by omega)).u (nE_0a hy0 hx) (by omega) hq (by omega)).cg (fun j hj => ?_), ((mo.rf).tr (mo.a _ (by decide) (by decide) _ _)).tr (mo.a _ (by decide) (by decide) _ _)⟩
      rw [soA_8 hp]
      simp only [va_up]
      grind
  · iterate 7 refine Wp.go rfl ?_
    refine Wp.go (if_pos ⟨(show 181 < 187 by decide), rfl, (inE (n := 14) (nE_add (nE_0a hy0 hx) (rfl : _ = nI 1)) (by first | omega | grind))⟩) ?_
    iterate 3 refine Wp.go rfl ?_
    refine Wp.neN (a := c.2 p) (b := 3) (rdE (nE_0a hy0 hx) (by first | omega | grind) ((hA) p (by omega)).1) (rfl : _ = nI 3) (by first | omega | grind) (by first | omega | grind) (fun (h3 : ¬ c.2 p = 3) => ?_) (fun (h3 : c.2 p = 3) => ?_)
    · iterate 5 refine Wp.go rfl ?_
      refine Wp.go (if_pos ⟨(show 181 < 187 by decide), rfl, (inE (n := 14) (nE_0a hy0 hx) (by first | omega | grind))⟩) ?_
      refine Wp.ret rfl ?_
      refine ⟨rfl, (((hA).u (nE_add (nE_0a hy0 hx) (rfl : _ = nI 1)) (by omega) (rfl : _ = nI 0) (by omega)).u (nE_0a hy0 hx) (by omega) hq (by omega)).cg (fun j hj => ?_), ((mo.rf).tr (mo.a _ (by decide) (by decide) _ _)).tr (mo.a _ (by decide) (by decide) _ _)⟩
      rw [soA_8 hp]
      simp only [va_up]
      grind
    · iterate 7 refine Wp.go rfl ?_
      refine Wp.go (if_pos ⟨(show 181 < 187 by decide), rfl, (inE (n := 14) (nE_sub (nE_0a hy0 hx) (rfl : _ = nI 1) (by first | omega | grind)) (by first | omega | grind))⟩) ?_
      iterate 5 refine Wp.go rfl ?_
      refine Wp.go (if_pos ⟨(show 181 < 187 by decide), rfl, (inE (n := 14) (nE_0a hy0 hx) (by first | omega | grind))⟩) ?_
      refine Wp.ret rfl ?_
      refine ⟨rfl, ((((hA).u (nE_add (nE_0a hy0 hx) (rfl : _ = nI 1)) (by omega) (rfl : _ = nI 0) (by omega)).u (nE_sub (nE_0a hy0 hx) (rfl : _ = nI 1) (by first | omega | grind)) (by omega) (rfl : _ = nI 0) (by omega)).u (nE_0a hy0 hx) (by omega) hq (by omega)).cg (fun j hj => ?_), (((mo.rf).tr (mo.a _ (by decide) (by decide) _ _)).tr (mo.a _ (by decide) (by decide) _ _)).tr (mo.a _ (by decide) (by decide) _ _)⟩
      rw [soA_8 hp]
      simp only [va_up]
      grind
set_option maxRecDepth 100000 in
theorem sX12_layLong170 {L : Nat} {c : cS} {σ : mc_G} (hA : arP 170 L c.2 σ) (h8L : 8 ≤ L) (hL : L ≤ 8) (h7 : c.2 7 ≠ 2) (h0 : c.2 0 ≠ 3) {x y : Int32} {p : Nat} (hy0 : y = nI 0) (hx : x = nI p) (hp : p < 7) : Wp miX12_layLong 0 [(0, .inr (some 170)), (1, .inl y), (2, .inl x)] [] σ (fun rv σ' => rv = none ∧ arP 170 L (slA c p).2 σ' ∧ mo [170] [] σ σ') := by
  iterate 4 refine Wp.go rfl ?_
  refine Wp.call rfl cqX12_lay (sX12_lay170 hA h8L hL h7 h0 hy0 hx (by omega) (rfl : _ = nI 0) (by decide)) (fun rv1 s1 hq1 => ?_)
  obtain ⟨rfl, hA1, ho1⟩ := hq1
  iterate 6 refine Wp.go rfl ?_
  refine Wp.call rfl cqX12_lay (sX12_lay170 (c := soA c p 0) hA1 h8L hL (by rw [soA_8 (by omega)]; grind) (by rw [soA_8 (by omega)]; grind) hy0 (nE_add hx (rfl : _ = nI 1)) (by omega) (rfl : _ = nI 0) (by decide)) (fun rv2 s2 hq2 => ?_)
  obtain ⟨rfl, hA2, ho2⟩ := hq2
  iterate 5 refine Wp.go rfl ?_
  refine Wp.go (if_pos ⟨(show 170 < 187 by decide), rfl, (inE (n := 8) (nE_0a hy0 hx) (by omega))⟩) ?_
  iterate 7 refine Wp.go rfl ?_
  refine Wp.go (if_pos ⟨(show 170 < 187 by decide), rfl, (inE (n := 8) (nE_add (nE_0a hy0 hx) (rfl : _ = nI 1)) (by omega))⟩) ?_
  refine Wp.ret rfl ?_
  refine ⟨rfl, ((hA2.u (nE_0a hy0 hx) (by omega) (rfl : _ = nI 2) (by decide)).u (nE_add (nE_0a hy0 hx) (rfl : _ = nI 1)) (by omega) (rfl : _ = nI 3) (by decide)).cg (fun j hj => ?_), ((ho1.tr ho2).tr (mo.a _ (by decide) (by decide) _ _)).tr (mo.a _ (by decide) (by decide) _ _)⟩
  rw [slA_8 hp]
  simp only [va_up]
  by_cases e1 : j = p
  · rw [if_pos e1, if_neg (by omega), if_pos e1]
  · by_cases e2 : j = p + 1
    · rw [if_neg e1, if_pos e2, if_pos e2]
    · rw [if_neg e1, if_neg e2, if_neg e2, if_neg e1]
set_option maxRecDepth 100000 in
theorem sX12_layLong181 {L : Nat} {c : cS} {σ : mc_G} (hA : arP 181 L c.2 σ) (h8L : 8 ≤ L) (hL : L ≤ 14) (h7 : c.2 7 ≠ 2) (h0 : c.2 0 ≠ 3) {x y : Int32} {p : Nat} (hy0 : y = nI 0) (hx : x = nI p) (hp : p < 7) : Wp miX12_layLong 0 [(0, .inr (some 181)), (1, .inl y), (2, .inl x)] [] σ (fun rv σ' => rv = none ∧ arP 181 L (slA c p).2 σ' ∧ mo [181] [] σ σ') := by
  iterate 4 refine Wp.go rfl ?_
  refine Wp.call rfl cqX12_lay (sX12_lay181 hA h8L hL h7 h0 hy0 hx (by omega) (rfl : _ = nI 0) (by decide)) (fun rv1 s1 hq1 => ?_)
  obtain ⟨rfl, hA1, ho1⟩ := hq1
  iterate 6 refine Wp.go rfl ?_
  refine Wp.call rfl cqX12_lay (sX12_lay181 (c := soA c p 0) hA1 h8L hL (by rw [soA_8 (by omega)]; grind) (by rw [soA_8 (by omega)]; grind) hy0 (nE_add hx (rfl : _ = nI 1)) (by omega) (rfl : _ = nI 0) (by decide)) (fun rv2 s2 hq2 => ?_)
  obtain ⟨rfl, hA2, ho2⟩ := hq2
  iterate 5 refine Wp.go rfl ?_
  refine Wp.go (if_pos ⟨(show 181 < 187 by decide), rfl, (inE (n := 14) (nE_0a hy0 hx) (by omega))⟩) ?_
  iterate 7 refine Wp.go rfl ?_
  refine Wp.go (if_pos ⟨(show 181 < 187 by decide), rfl, (inE (n := 14) (nE_add (nE_0a hy0 hx) (rfl : _ = nI 1)) (by omega))⟩) ?_
  refine Wp.ret rfl ?_
  refine ⟨rfl, ((hA2.u (nE_0a hy0 hx) (by omega) (rfl : _ = nI 2) (by decide)).u (nE_add (nE_0a hy0 hx) (rfl : _ = nI 1)) (by omega) (rfl : _ = nI 3) (by decide)).cg (fun j hj => ?_), ((ho1.tr ho2).tr (mo.a _ (by decide) (by decide) _ _)).tr (mo.a _ (by decide) (by decide) _ _)⟩
  rw [slA_8 hp]
  simp only [va_up]
  by_cases e1 : j = p
  · rw [if_pos e1, if_neg (by omega), if_pos e1]
  · by_cases e2 : j = p + 1
    · rw [if_neg e1, if_pos e2, if_pos e2]
    · rw [if_neg e1, if_neg e2, if_neg e2, if_neg e1]
set_option maxRecDepth 100000 in
theorem sX12_ends {σ : mc_G} {x : Int32} : Wp miX12_ends 0 [(0, .inr (some 167)), (1, .inl x)] [] σ (fun rv σ' => rv = some (.inl x) ∧ σ' = mc_up σ 167 13 0) := by
  iterate 4 refine Wp.go rfl ?_
  refine Wp.ret rfl ?_
  exact ⟨rfl, rfl⟩
theorem cMod.en {K : kS} {σ : mc_G} (hT : cMT K.1 σ) (hP : cMP K.2.1 σ) (hB : cMB K.2.2.1 σ) (hf : σ 167 14 = nI K.2.2.2.2.2.2.2) : cMod (kN K) (mc_up σ 167 13 0) := by
  have o : mo [] [13] σ (mc_up σ 167 13 0) := mo.f σ (by decide) 0
  exact ⟨hT.o o, hP.o o, hB.o o, by rw [upj, if_pos rfl]; rfl, by rw [upj, if_neg (by decide)]; exact hf, fun q => by cases q⟩
set_option maxRecDepth 100000 in
theorem sX12_type_n {K : kS} {σ : mc_G} (hM : cMod K σ) (hk : kOk K) {x y : Int32} {p : Nat} {f : Bool} (hx : x = nI p) (hlp : p < 2 ^ 31) (hy : y = bI f) : Wp miX12_type 0 [(0, .inr (some 167)), (1, .inl x), (2, .inl y)] [] σ (fun rv σ' => rv = some (.inl (tyR K f (some p)).1) ∧ cMod (tyR K f (some p)).2 σ' ∧ ofR 167 186 σ σ') := by
  have h8 := hk.1.2.1
  have kk : tyB K.1 p f = true → tc K.1 < 8 → Wp miX12_type 45 [(0, .inr (some 167)), (1, .inl x), (2, .inl y)] [] (mc_up σ 167 0 0) (fun rv σ' => rv = some (.inl (tyR K f (some p)).1) ∧ cMod (tyR K f (some p)).2 σ' ∧ ofR 167 186 σ σ') := by
    intro hb h8
    have hC := hM.c 0
    generalize hs : mc_up σ 167 0 0 = τ at hC ⊢
    have hor : ofR 167 186 σ τ := by rw [← hs]; exact (mo.f σ (cs := []) (fs := [0]) (by decide) 0).r (by decide)
    have e1 : tyR K f (some p) = (nI (tc K.1), kN (kT K (taA K.1 p f))) := by show (if _ then _ else _) = _; rw [if_pos hb, if_pos h8]
    rw [e1]
    have ct := hC.1.1
    have cl := clE ct (show tc K.1 < 2 ^ 31 by omega)
    iterate 5 refine Wp.go rfl ?_
    refine Wp.go (if_pos ⟨(show 168 < 187 by decide), rfl, inE (n := 8) ct h8⟩) ?_
    iterate 5 refine Wp.go rfl ?_
    refine Wp.go (if_pos ⟨(show 169 < 187 by decide), rfl, inE (n := 8) ct h8, bE_01 hy⟩) ?_
    iterate 11 refine Wp.go rfl ?_
    let τ3 : mc_G := mc_up (mc_up (mc_up τ 168 (τ 167 1).toNatClampNeg x) 169 (τ 167 1).toNatClampNeg y) 167 1 (τ 167 1 + 1)
    have ho3 : mo [168, 169] [1] τ τ3 := ((mo.a _ (by decide) (by decide) _ _).tr (mo.a _ (by decide) (by decide) _ _)).tr (mo.f _ (by decide) _)
    have q1 : τ 167 1 + 1 = nI (tc K.1 + 1) := nE_add ct (rfl : _ = nI 1)
    have hT3 : cMT (taA K.1 p f) τ3 := by
      refine ⟨?_, fun t ht => ⟨?_, ?_⟩⟩
      · show mc_up _ 167 1 _ 167 1 = _
        rw [upj, if_pos rfl]; exact q1
      · show mc_up _ 167 1 _ 168 t = nI (va_up (tp K.1) (tc K.1) p t)
        have ht' : t < tc K.1 + 1 := ht
        rw [mc_upn _ _ _ (by decide), mc_upn _ _ _ (by decide), upj, cl]
        unfold va_up
        by_cases e : t = tc K.1
        · rw [if_pos e, if_pos e]; exact hx
        · rw [if_neg e, if_neg e]; exact (hC.1.2 t (by omega)).1
      · show mc_up _ 167 1 _ 169 t = bI (va_up (tf K.1) (tc K.1) f t)
        have ht' : t < tc K.1 + 1 := ht
        rw [mc_upn _ _ _ (by decide), upj, cl]
        unfold va_up
        by_cases e : t = tc K.1
        · rw [if_pos e, if_pos e]; exact hy
        · rw [if_neg e, if_neg e, mc_upn _ _ _ (by decide)]; exact (hC.1.2 t (by omega)).2
    refine Wp.call rfl cqX12_ends sX12_ends (fun rv1 s1 hq1 => ?_)
    obtain ⟨rfl, rfl⟩ := hq1
    refine Wp.ret rfl ?_
    have hz : τ3 167 1 - 1 = nI (tc K.1) := by
      have : τ3 167 1 = nI (tc K.1 + 1) := hT3.1
      exact nE_sub this (rfl : _ = nI 1) (by omega)
    refine ⟨congrArg (fun q => some (Sum.inl q)) hz, cMod.en (K := kT K (taA K.1 p f)) (σ := τ3) hT3 (hC.2.1.o ho3) (hC.2.2.1.o ho3) (by rw [ho3.2 14 (by decide)]; exact hC.2.2.2.2.1), hor.tr ((ho3.r (by decide)).tr ((mo.f τ3 (cs := []) (fs := [13]) (by decide) 0).r (by decide)))⟩
  iterate 2 refine Wp.go rfl ?_
  refine Wp.go rfl ?_
  iterate 2 refine Wp.go rfl ?_
  refine Wp.call rfl cqX12_isType (sX12_isType (hM.c 0).1 hk.1 hx (by omega)) (fun rv1 s1 hq1 => ?_)
  obtain ⟨rfl, hq1⟩ := hq1
  replace hq1 := hq1.symm
  subst hq1
  refine Wp.go rfl ?_
  refine Wp.beqD (p := p < tc K.1) rfl (fun (h1 : ¬ (p < tc K.1)) => ?_) (fun (h1 : p < tc K.1) => ?_)
  · refine Wp.go rfl ?_
    refine Wp.ret rfl ?_
    have e1 : tyR K f (some p) = (-2, K) := by show (if _ then _ else _) = _; rw [if_neg (by unfold tyB; first | (simp_all; done) | (simp; intro q; omega))]
    rw [e1]
    exact ⟨rfl, hM.c 0, (mo.f σ (cs := []) (fs := [0]) (by decide) 0).r (by decide)⟩
  · iterate 3 refine Wp.go rfl ?_
    refine Wp.go (if_pos ⟨rfl, rfl, (inE (n := 8) hx (by omega))⟩) ?_
    refine Wp.go rfl ?_
    refine Wp.bneE (rdE hx (by omega) (((hM.c 0).1.2 p (by omega)).2)) (fun (h2 : (tf K.1 p) = true) => ?_) (fun (h2 : (tf K.1 p) = false) => ?_)
    · refine Wp.go rfl ?_
      refine Wp.ret rfl ?_
      have e1 : tyR K f (some p) = (-2, K) := by show (if _ then _ else _) = _; rw [if_neg (by unfold tyB; first | (simp_all; done) | (simp; intro q; omega))]
      rw [e1]
      exact ⟨rfl, hM.c 0, (mo.f σ (cs := []) (fs := [0]) (by decide) 0).r (by decide)⟩
    · iterate 2 refine Wp.go rfl ?_
      refine Wp.beqE hy (fun (h3 : f = false) => ?_) (fun (h3 : f = true) => ?_)
      · iterate 4 refine Wp.go rfl ?_
        refine Wp.neN (a := tc K.1) (b := 8) (hM.c 0).1.1 (rfl : _ = nI 8) (by omega) (by omega) (fun (h4 : ¬ tc K.1 = 8) => ?_) (fun (h4 : tc K.1 = 8) => ?_)
        · have hb : tyB K.1 p f = true := by unfold tyB; simp_all
          exact kk hb (by omega)
        · refine Wp.go rfl ?_
          refine Wp.ret rfl ?_
          have e1 : tyR K f (some p) = (-3, K) := by show (if _ then _ else _) = _; rw [if_pos (by unfold tyB; simp_all), if_neg (by omega)]
          rw [e1]
          exact ⟨rfl, hM.c 0, (mo.f σ (cs := []) (fs := [0]) (by decide) 0).r (by decide)⟩
      · iterate 2 refine Wp.go rfl ?_
        refine Wp.eqN (a := p) (b := 0) hx (rfl : _ = nI 0) (by omega) (by omega) (fun (h5 : p = 0) => ?_) (fun (h5 : ¬ p = 0) => ?_)
        · iterate 4 refine Wp.go rfl ?_
          refine Wp.neN (a := tc K.1) (b := 8) (hM.c 0).1.1 (rfl : _ = nI 8) (by omega) (by omega) (fun (h6 : ¬ tc K.1 = 8) => ?_) (fun (h6 : tc K.1 = 8) => ?_)
          · have hb : tyB K.1 p f = true := by unfold tyB; simp_all
            exact kk hb (by omega)
          · refine Wp.go rfl ?_
            refine Wp.ret rfl ?_
            have e1 : tyR K f (some p) = (-3, K) := by show (if _ then _ else _) = _; rw [if_pos (by unfold tyB; simp_all), if_neg (by omega)]
            rw [e1]
            exact ⟨rfl, hM.c 0, (mo.f σ (cs := []) (fs := [0]) (by decide) 0).r (by decide)⟩
        · refine Wp.go rfl ?_
          refine Wp.ret rfl ?_
          have e1 : tyR K f (some p) = (-2, K) := by show (if _ then _ else _) = _; rw [if_neg (by unfold tyB; first | (simp_all; done) | (simp; intro q; omega))]
          rw [e1]
          exact ⟨rfl, hM.c 0, (mo.f σ (cs := []) (fs := [0]) (by decide) 0).r (by decide)⟩
set_option maxRecDepth 100000 in
theorem sX12_type {K : kS} {σ : mc_G} (hM : cMod K σ) (hk : kOk K) {x y : Int32} {u : Option Nat} {f : Bool} (hu : oV x u) (hy : y = bI f) : Wp miX12_type 0 [(0, .inr (some 167)), (1, .inl x), (2, .inl y)] [] σ (fun rv σ' => rv = some (.inl (tyR K f u).1) ∧ cMod (tyR K f u).2 σ' ∧ ofR 167 186 σ σ') := by
  rcases u with _ | p
  · have hx : x < 0 := hu
    iterate 2 refine Wp.go rfl ?_
    refine Wp.go rfl ?_
    iterate 2 refine Wp.go rfl ?_
    refine Wp.call rfl cqX12_isType (sX12_isType_g (hM.c 0).1 hk.1 hx) (fun rv1 s1 hq1 => ?_)
    obtain ⟨rfl, hq1⟩ := hq1
    replace hq1 := hq1.symm
    subst hq1
    refine Wp.go rfl ?_
    refine Wp.beqE (b := false) rfl (fun _ => ?_) (fun q => by cases q)
    refine Wp.go rfl ?_
    refine Wp.ret rfl ?_
    exact ⟨rfl, hM.c 0, (mo.f σ (cs := []) (fs := [0]) (by decide) 0).r (by decide)⟩
  · exact sX12_type_n hM hk hu.1 hu.2 hy

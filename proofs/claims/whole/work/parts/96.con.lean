/-! what the two are when they are made -/
def cR0 : Nat → Nat → Option Nat := fun _ _ => none
def cG0 : mc_G := fun a k => if a = 1000 then nI (tkA k) else if a = 1001 then nI (gvA k) else 0
def sg0 : mc_G := fun a k => if a = 1000 then nI (tkA k) else if a = 1001 then nI (gvA k) else if a = 1 ∧ k = 2 then 1 else if a = 167 ∧ k = 1 then 1 else 0
def cM1 : mc_M := (1, mc_cl cR0 0 none, mc_cl cG0 0 0)
def cM2 (r : Option mc_V × mc_M) : mc_M := (168, mc_cl r.2.2.1 167 none, mc_cl r.2.2.2 167 0)
def cE1 : Option (Option mc_V × mc_M) := mc_ev true 3000 103 0 [(0, .inr (some 0))] [] cM1
def cE2 : Option ((Option mc_V × mc_M) × (Option mc_V × mc_M)) := cE1.bind (fun r => (mc_ev true 3000 125 0 [(0, .inr (some 167))] [] (cM2 r)).map (fun z => (r, z)))
def cEq (z : mc_M) (a : Nat) : Bool := (List.range (mc_ty a).2).all (fun k => decide (z.2.1 a k = rh0 a k) && decide (z.2.2 a k = sg0 a k))
def cChk : Bool := match cE2 with
  | none => false
  | some (r, z) => decide (r.1 = none) && decide (z.1 = none) && decide (r.2.1 = 167) && decide (z.2.1 = 187) && (List.range 187).all (cEq z.2) && cEq z.2 1000 && cEq z.2 1001
set_option maxRecDepth 1000000 in
theorem cChk_ok : cChk = true := by decide +kernel

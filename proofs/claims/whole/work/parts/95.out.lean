/-! the class's out: it returns, or it throws -/
theorem mc_S.gr {E : mc_H} {M : mc_M} {H H1 : Heap} (hS : mc_S E false M H) (oq : ∀ q : Nat, q < H.size → H1[q]? = H[q]?) : mc_S E false M H1 :=
  ⟨hS.1, fun b hb => (hS.2.1 b hb).kept (oq _ (hS.2.1 b hb).lt), fun h => (by cases h), hS.2.2.2⟩
section OUTC
variable {l : Launch} {p : Program} {e : Env} {s : State} {m : MethodId} {below : List Frame} {meth : Method} {c : Code} {Q : State → Prop} {args : Array Value} {R : Room} {cc : ByteArray} {own : String}
theorem gc_get {E : mc_H} (hx : p.tables.exec = Jvm.exec) (hb : c.code = cc) (hown : s.vm.findClass own = some m.cls) (htm : ∀ w ∈ mc_ws, w.before args s = true) (hU : mc_U E s) {a ci idx kf pc cells slots : Nat} {q : vw_C} {σ : mc_G} {rest : List Value} {H : Heap} {locs : List Loc} {ls : Array Slot}
    (h2 : 2 ≤ ci) (hq : vwCl[ci]? = some q) (ha : a < 187) (hta : (mc_ty a).1 = 3 + ci) (hkn : kf < q.2.2) (hn : kf < (mc_ty a).2) (hw : (Cond.fieldLink own idx (q.2.1 kf).1 (q.2.1 kf).2.1 (q.2.1 kf).2.2.1).before args s = true) (hd : decode cc pc = .ok (.getfield idx, 3)) (hS : mc_S E false (187, rh0, σ) H)
    (k : W p l e R s m args below meth c H locs cells slots Q (F0 m (pc + 3) ls ((if mc_isr ci kf = true then va_rf ((rh0 a kf).map (mc_adr E)) else .int (σ a kf)) :: rest))) : W p l e R s m args below meth c H locs cells slots Q (F0 m pc ls (.ref (mc_adr E a) :: rest)) := by
  obtain ⟨hcw, -, -⟩ := mc_cls h2 hq
  have hat := hS.2.1 a (mc_rd_lt ha)
  rw [mc_cell3 hta] at hat
  exact va_get hx hb htm hcw hown hU.1 (mc_one hat) 0 rfl hq kf hkn hw (fun _ h => h) (mc_fs_get hn) hd k
end OUTC
def ox_U (E : mc_H) (sa : Nat) (U : State) : Prop := mc_U E U ∧ vx_Zq tN "UNASSIGNED_STACK" steD (mc_A E true) U U.heap ∧ vx_Zq tN "SUPPRESSED_SENTINEL" listD (mc_A E true) U U.heap ∧ vk_R RX11 169 "no such byte" sa U
def ox_ok (K : kS) (x : Int32) (r : Int32) : Prop := K.2.2.2.2.2.2.1 = true ∧ ∃ p : Nat, x = nI p ∧ p < K.2.2.2.2.2.1.1.1 ∧ r = nI (K.2.2.2.2.2.1.1.2 p)
def ox_F (E : mc_H) (σ : mc_G) (st t : State) : Prop := mc_S E false (187, rh0, σ) t.heap ∧ va_F (mc_A E true) st t ∧ t.heap[E.2.2.1 + 187]? = st.heap[E.2.2.1 + 187]?
def ox_P (E : mc_H) (sa : Nat) (σ : mc_G) (x : Int32) : Array Value → State → Prop := va_Pc [.ref (mc_adr E 0), .int x] (fun U => ox_U E sa U ∧ mc_S E false (187, rh0, σ) U.heap ∧ E.2.2.1 + 187 < U.heap.size)
def ox_Q (E : mc_H) (K : kS) (σ : mc_G) (x : Int32) : Array Value → State → Outcome → State → Prop := fun _ st oc t => ∃ r : Int32, ox_ok K x r ∧ oc = .returned (some (.int r)) ∧ ox_F E σ st t
def ox_X (E : mc_H) (K : kS) (σ : mc_G) (x : Int32) : String → State → State → Prop := fun nm st t => nm = "java/lang/ArrayIndexOutOfBoundsException" ∧ (∀ r, ¬ ox_ok K x r) ∧ ox_F E σ st t
abbrev ox_rm : Room := { frames := 9, cells := 1, slots := 6, locals := 400 }
abbrev ox_nm : List String := ["java/lang/IndexOutOfBoundsException", "java/lang/RuntimeException", "java/lang/Exception"]
set_option maxRecDepth 100000 in
theorem ox_at : ∀ w ∈ vx_atS RX11 171 "java/lang/ArrayIndexOutOfBoundsException" ox_nm, w ∈ mc_ws := by decide +kernel
set_option maxRecDepth 100000 in
theorem ox_gd : ∀ w ∈ Cond.classLink RX11 167 "java/lang/ArrayIndexOutOfBoundsException" :: Cond.initialized "java/lang/ArrayIndexOutOfBoundsException" :: vx_atS RX11 171 "java/lang/ArrayIndexOutOfBoundsException" ox_nm, vx_ot w = true := by decide +kernel

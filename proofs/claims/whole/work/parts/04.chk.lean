def mc_fk : Option FieldType → Nat
  | some .int => 0
  | some .boolean => 1
  | some (.object _) => 2
  | some (.array _) => 2
  | _ => 9
def mc_lenok (i : Instr) (len : Nat) : Bool := match i with
  | .iconst _ => len == 1
  | .bipush _ => len == 2
  | .sipush _ => len == 3
  | .ldc _ => len == 2
  | .ldc_w _ => len == 3
  | .iload_n _ => len == 1
  | .iload _ => len == 2
  | .aload_n _ => len == 1
  | .aload _ => len == 2
  | .istore_n _ => len == 1
  | .istore _ => len == 2
  | .astore_n _ => len == 1
  | .astore _ => len == 2
  | .iinc _ _ => len == 3
  | .goto _ => len == 3
  | .ifCond _ _ => len == 3
  | .if_icmp _ _ => len == 3
  | .tableswitch _ _ _ _ => true
  | .getfield _ => len == 3
  | .putfield _ => len == 3
  | .getstatic _ => len == 3
  | .new _ => len == 3
  | .newarray _ => len == 2
  | .anewarray _ => len == 3
  | .invokevirtual _ => len == 3
  | .invokestatic _ => len == 3
  | .invokespecial _ => len == 3
  | _ => len == 1
def mc_num (t : mc_T) (i : Nat) : Nat := t.2.2.2.2.1.getD i 0
/-- what a called method's own numbers must be: its words, how many values it takes, its room within the caller's -/
def mc_cal (t u : mc_T) (na st : Nat) : Bool :=
  decide ((parseMethodDescriptor u.1.desc).map (fun d => d.parameters.length + st) = some na) && decide (mc_num u 0 + 1 ≤ mc_num t 0) && decide (8 + (u.2.2.1 + 11) + mc_num u 1 ≤ mc_num t 1)
  && decide (na ≤ u.2.2.1)
/-- a method's own words -/
def mc_own (u : mc_T) : Prop := lw_tbl[mc_num u 3]? = some (.code u.1 u.2.1 u.2.2.1 u.2.2.2.1) ∧ (mc_has (mc_num u 4) (.initialized u.1.cls) && plainName u.1.cls && decide (u.1.cls ≠ "java/lang/invoke/MethodHandle") && decide (u.1.cls ≠ "java/lang/invoke/VarHandle")) = true
def mc_link (t : mc_T) (pc : Nat) (i : Instr) (r : List Nat) : Bool := match i with
  | .ldc x => mc_has (r.getD 1 0) (.constant t.1.cls x (Int32.ofNat (r.getD 0 0)))
  | .ldc_w x => mc_has (r.getD 1 0) (.constant t.1.cls x (Int32.ofNat (r.getD 0 0)))
  | .istore_n k => decide ((k : Nat) < t.2.2.1)
  | .istore k => decide (k < t.2.2.1)
  | .astore_n k => decide ((k : Nat) < t.2.2.1)
  | .astore k => decide (k < t.2.2.1)
  | .iinc k _ => decide (k < t.2.2.1)
  | .goto o => decide ((pc : Int) + o = (r.getD 0 0 : Int))
  | .ifCond _ o => decide ((pc : Int) + o = (r.getD 0 0 : Int))
  | .if_icmp _ o => decide ((pc : Int) + o = (r.getD 0 0 : Int))
  | .tableswitch d lo hi os => decide ((pc : Int) + d = (r.getD 0 0 : Int)) && decide ((os.size : Int) = hi - lo + 1) && (List.range os.size).all (fun j => decide ((pc : Int) + os.getD j 0 = (r.getD (j + 1) 0 : Int)))
  | .getfield x => match vwCl[r.getD 0 0]? with
    | some q => decide (2 ≤ r.getD 0 0) && decide (r.getD 1 0 < q.2.2) && mc_has (r.getD 3 0) (.fieldLink t.1.cls x (q.2.1 (r.getD 1 0)).1 (q.2.1 (r.getD 1 0)).2.1 (q.2.1 (r.getD 1 0)).2.2.1) && decide (mc_isr (r.getD 0 0) (r.getD 1 0) = decide (r.getD 2 0 = 2))
    | none => false
  | .putfield x => match vwCl[r.getD 0 0]? with
    | some q => decide (2 ≤ r.getD 0 0) && decide (r.getD 1 0 < q.2.2) && mc_has (r.getD 3 0) (.fieldLink t.1.cls x (q.2.1 (r.getD 1 0)).1 (q.2.1 (r.getD 1 0)).2.1 (q.2.1 (r.getD 1 0)).2.2.1) && decide (mc_isr (r.getD 0 0) (r.getD 1 0) = decide (r.getD 2 0 = 2))
      && decide (mc_fk (parseFieldDescriptor (q.2.1 (r.getD 1 0)).2.2.1) = r.getD 2 0) && (!(q.2.1 (r.getD 1 0)).2.2.2 || (decide (t.1.name = "<init>") && decide ((q.2.1 (r.getD 1 0)).1 = t.1.cls)))
    | none => false
  | .getstatic x => (decide (r.getD 0 0 = 1000) && mc_has (r.getD 1 0) (.fieldLink t.1.cls x "FrameWriter" "TAKES" "[I")) || (decide (r.getD 0 0 = 1001) && mc_has (r.getD 1 0) (.fieldLink t.1.cls x "FrameWriter" "GIVES" "[I"))
  | .new x => match vwCl[r.getD 0 0]? with
    | some q => decide (2 ≤ r.getD 0 0) && mc_has (r.getD 1 0) (.classLink t.1.cls x q.1) && mc_has (r.getD 2 0) (.instantiable q.1 q.2.2) && mc_has (r.getD 3 0) (.initialized q.1)
    | none => false
  | .newarray ty => mc_has (r.getD 0 0) (.arrayClass (newarray.typeOf ty))
  | .anewarray x => mc_has (r.getD 0 0) (.classLink t.1.cls x RX0)
  | .invokevirtual x => match mc_tab[r.getD 0 0]? with
    | some u => mc_cal t u (r.getD 1 0) 1 && decide (r.getD 2 0 = 0) && mc_has (r.getD 3 0) (.methodLink t.1.cls x u.1) && mc_has (r.getD 4 0) (.instanceMethod u.1) && mc_has (r.getD 5 0) (.selects u.1.cls u.1 u.1) && decide ((vwCl[r.getD 6 0]?).map (·.1) = some u.1.cls)
    | none => false
  | .invokestatic x => if r.getD 0 0 = 9990 then mc_has (r.getD 1 0) (.methodLink t.1.cls x Lib.Math.max.name) && mc_has (r.getD 2 0) (.static Lib.Math.max.name) && mc_has (r.getD 3 0) (.initialized "java/lang/Math") && mc_has (r.getD 4 0) (.code Lib.Math.max.name Lib.Math.max.code 2 (some .int)) && decide (1 ≤ mc_num t 0) && decide (21 ≤ mc_num t 1)
    else if r.getD 0 0 = 9991 then mc_has (r.getD 1 0) (.methodLink t.1.cls x Lib.Math.min.name) && mc_has (r.getD 2 0) (.static Lib.Math.min.name) && mc_has (r.getD 3 0) (.initialized "java/lang/Math") && mc_has (r.getD 4 0) (.code Lib.Math.min.name Lib.Math.min.code 2 (some .int)) && decide (1 ≤ mc_num t 0) && decide (21 ≤ mc_num t 1)
    else if r.getD 0 0 = 9992 then mc_has (r.getD 1 0) (.methodLink t.1.cls x Lib.Math.abs.name) && mc_has (r.getD 2 0) (.static Lib.Math.abs.name) && mc_has (r.getD 3 0) (.initialized "java/lang/Math") && mc_has (r.getD 4 0) (.code Lib.Math.abs.name Lib.Math.abs.code 1 (some .int)) && decide (1 ≤ mc_num t 0) && decide (21 ≤ mc_num t 1)
    else if r.getD 0 0 = 9999 then mc_has (r.getD 1 0) (.methodLink t.1.cls x arraycopyName) && mc_has (r.getD 2 0) (.native arraycopyName) && mc_has (r.getD 3 0) (.static arraycopyName) && mc_has (r.getD 4 0) (.initialized "java/lang/System") && decide (1 ≤ mc_num t 0) && decide (nativeFrameWords "java/lang/System" "arraycopy" 5 + 11 ≤ mc_num t 1)
    else match mc_tab[r.getD 0 0]? with
    | some u => mc_cal t u (r.getD 1 0) 0 && mc_has (r.getD 4 0) (.static u.1) && (if r.getD 2 0 = 0 then mc_has (r.getD 3 0) (.methodLink t.1.cls x u.1) else mc_has (r.getD 3 0) (.methodLinkNest t.1.cls x u.1 "FrameWriter"))
    | none => false
  | .invokespecial x => if r.getD 0 0 = 9998 then mc_has (r.getD 1 0) (.methodLink t.1.cls x objectInit) && mc_has (r.getD 2 0) (.instanceMethod objectInit) && mc_has (r.getD 3 0) (.code objectInit ⟨#[0xb1]⟩ 1 none) && decide (1 ≤ mc_num t 0) && decide (12 ≤ mc_num t 1)
    else match mc_tab[r.getD 0 0]? with
    | some u => mc_cal t u (r.getD 1 0) 1 && decide (u.2.2.2.1 = none) && decide (u.1.name = "<init>") && mc_has (r.getD 4 0) (.instanceMethod u.1) && (if r.getD 2 0 = 0 then mc_has (r.getD 3 0) (.methodLink t.1.cls x u.1) else mc_has (r.getD 3 0) (.methodLinkNest t.1.cls x u.1 "FrameWriter"))
    | none => false
  | .ireturn => decide (t.2.2.2.1 = some (if r.getD 0 0 = 0 then .int else .boolean))
  | .areturn => decide (mc_fk t.2.2.2.1 = 2)
  | .return_ => decide (t.2.2.2.1 = none)
  | _ => true
def mc_chk (t : mc_T) (e : mc_I) : Bool := decide (decode t.2.1 e.1 = .ok (e.2.1, e.2.2.1)) && mc_lenok e.2.1 e.2.2.1 && mc_link t e.1 e.2.1 e.2.2.2
def mc_all (t : mc_T) : Bool := t.2.2.2.2.2.all (mc_chk t)

/-! WHAT IS CHECKED OF THE TABLES, by the kernel -/
def zz_len (i : Jvm.ClassFile.Instr) : Nat := match i with
  | .bipush _ => 2
  | .ldc _ => 2
  | .iload _ => 2
  | .lload _ => 2
  | .aload _ => 2
  | .istore _ => 2
  | .lstore _ => 2
  | .astore _ => 2
  | .newarray _ => 2
  | .sipush _ => 3
  | .ldc_w _ => 3
  | .ldc2_w _ => 3
  | .iinc _ _ => 3
  | .ifCond _ _ => 3
  | .if_icmp _ _ => 3
  | .goto _ => 3
  | .getfield _ => 3
  | .putfield _ => 3
  | .getstatic _ => 3
  | .invokevirtual _ => 3
  | .invokestatic _ => 3
  | .invokespecial _ => 3
  | .new _ => 3
  | .anewarray _ => 3
  | _ => 1
def zz_term (i : Jvm.ClassFile.Instr) : Bool := match i with
  | .goto _ => true
  | .ireturn => true
  | .lreturn => true
  | .return_ => true
  | .athrow => true
  | .tableswitch _ _ _ _ => true
  | .lookupswitch _ _ => true
  | _ => false
/-- w is the word at place i of the tables, and stays -/
def zz_has (i : Nat) (w : Cond) : Bool := decide (lw_tbl[i]? = some w) && goodWord w
theorem zz_has_ok {i : Nat} {w : Cond} (h : zz_has i w = true) : w ∈ zz_G := by
  unfold zz_has at h
  rw [Bool.and_eq_true] at h
  exact zz_Gin (List.mem_of_getElem? (of_decide_eq_true h.1)) h.2
def zz_has2 (i : Nat) (w : Cond) : Bool := decide (lw_tbl[i]? = some w) && zz_nst w
theorem zz_has2_ok {i : Nat} {w : Cond} (h : zz_has2 i w = true) : w ∈ zz_G2 := by
  unfold zz_has2 at h
  rw [Bool.and_eq_true] at h
  exact List.mem_filter.mpr ⟨List.mem_of_getElem? (of_decide_eq_true h.1), h.2⟩
def zz_okF (h : List Nat) (own : String) (x a b c : Nat) : Bool := match zz_cl[a]? with
  | some q => decide (b < q.2.2) && (if c = 0 then zz_has (h.getD 0 0) (.fieldLink own x (q.2.1 b).1 (q.2.1 b).2.1 (q.2.1 b).2.2.1) else zz_has2 (h.getD 0 0) (.fieldLinkNest own x (q.2.1 b).1 (q.2.1 b).2.1 (q.2.1 b).2.2.1 "OneStageTwoPlays"))
  | none => false
def zz_okFin (own nm : String) (a b c : Nat) : Bool := match zz_cl[a]? with
  | some q => !(q.2.1 b).2.2.2 || (decide (c = 0) && decide (nm = "<init>") && decide ((q.2.1 b).1 = own))
  | none => false
def zz_rdr : String := "OneStageTwoPlays$Reader"
/-- the callee's own words -/
def zz_okC (h : List Nat) (a n : Nat) : Bool := zz_has (h.getD 0 0) (.code (zz_M a).1 (zz_M a).2.1 (zz_M a).2.2.1 (zz_M a).2.2.2.1) && decide ((zz_M a).2.2.1 ≤ 40) && decide ((zz_M a).1.cls ≠ "java/lang/invoke/MethodHandle") && decide ((zz_M a).1.cls ≠ "java/lang/invoke/VarHandle") && decide ((parseMethodDescriptor (zz_M a).1.desc).map (fun d => d.parameters.length) = some n) && zz_has (h.getD 1 0) (.initialized (zz_M a).1.cls) && plainName (zz_M a).1.cls
def zz_okV (h : List Nat) (own : String) (x a c : Nat) : Bool := match zz_cl[c]? with
  | some q => decide ((zz_M a).1.cls = q.1) && zz_has (h.getD 2 0) (.methodLink own x (zz_M a).1) && zz_has (h.getD 3 0) (.instanceMethod (zz_M a).1) && zz_has (h.getD 4 0) (.selects q.1 (zz_M a).1 (zz_M a).1)
  | none => false
def zz_okU (h : List Nat) (own : String) (x a c : Nat) (xc : String) : Bool := match zz_cl[c]? with
  | some q => zz_has (h.getD 2 0) (.methodLink own x ⟨xc, (zz_M a).1.name, (zz_M a).1.desc⟩) && zz_has (h.getD 5 0) (.sameMethod xc zz_rdr (zz_M a).1.name (zz_M a).1.desc) && zz_has2 (h.getD 6 0) (.declares ⟨zz_rdr, (zz_M a).1.name, (zz_M a).1.desc⟩) && zz_has (h.getD 4 0) (.selects q.1 ⟨xc, (zz_M a).1.name, (zz_M a).1.desc⟩ (zz_M a).1) && zz_has (h.getD 3 0) (.instanceMethod (zz_M a).1)
  | none => false
def zz_xc (c : Nat) : String := match zz_cl[c]? with
  | some q => q.1
  | none => ""
def zz_ln (q : zz_i) : Nat := match q.2.1 with
  | .tableswitch _ _ _ _ => q.2.2.2.2
  | .lookupswitch _ _ => q.2.2.2.2
  | i => zz_len i
def zz_okX (h : List Nat) (own nm : String) (ml : Nat) (rt : Option FieldType) (q : zz_i) : Bool := match q.2.1 with
  | .ldc x => zz_has (h.getD 0 0) (.constant own x (Int32.ofNat q.2.2.1))
  | .ldc_w x => zz_has (h.getD 0 0) (.constant own x (Int32.ofNat q.2.2.1))
  | .ldc2_w x => zz_has (h.getD 0 0) (.constantLong own x (Int64.ofNat q.2.2.1))
  | .istore n => decide (n < ml)
  | .istore_n n => decide (n.val < ml)
  | .astore n => decide (n < ml)
  | .astore_n n => decide (n.val < ml)
  | .lstore n => decide (n + 1 < ml)
  | .lstore_n n => decide (n.val + 1 < ml)
  | .iinc n _ => decide (n < ml)
  | .ifCond _ off => decide (0 ≤ (q.1 : Int) + off)
  | .if_icmp _ off => decide (0 ≤ (q.1 : Int) + off)
  | .goto off => decide (0 ≤ (q.1 : Int) + off)
  | .tableswitch dflt _ _ offs => decide (0 ≤ (q.1 : Int) + dflt) && offs.toList.all fun off => decide (0 ≤ (q.1 : Int) + off)
  | .lookupswitch dflt ps => (ps.toList.zip (ps.toList.drop 1)).all (fun (a, next) => a.1 < next.1) && decide (0 ≤ (q.1 : Int) + dflt) && ps.toList.all fun z => decide (0 ≤ (q.1 : Int) + z.2)
  | .getfield x => zz_okF h own x q.2.2.1 q.2.2.2.1 q.2.2.2.2
  | .putfield x => zz_okF h own x q.2.2.1 q.2.2.2.1 q.2.2.2.2 && zz_okFin own nm q.2.2.1 q.2.2.2.1 q.2.2.2.2
  | .getstatic x => zz_has (h.getD 0 0) (.fieldLink own x "OneStageTwoPlays$Changes" "PLAIN_RULE" "[I")
  | .new x => if 12 ≤ q.2.2.1 then true else match zz_cl[q.2.2.1]? with
    | some z => zz_has (h.getD 0 0) (.classLink own x z.1) && zz_has (h.getD 1 0) (.instantiable z.1 z.2.2) && zz_has (h.getD 2 0) (.initialized z.1)
    | none => false
  | .newarray t => zz_has (h.getD 0 0) (.arrayClass (newarray.typeOf t)) && decide (zz_kd t < 99)
  | .anewarray x => zz_has (h.getD 0 0) (.classLink own x "OneStageTwoPlays$Night")
  | .invokevirtual x => decide (1 ≤ q.2.2.2.1) && zz_okC h q.2.2.1 (q.2.2.2.1 - 1) && (zz_okV h own x q.2.2.1 q.2.2.2.2 || zz_okU h own x q.2.2.1 q.2.2.2.2 (zz_xc q.2.2.2.2) || zz_okU h own x q.2.2.1 q.2.2.2.2 zz_rdr)
  | .invokestatic x => if q.2.2.1 = 309 ∨ q.2.2.1 = 310 then zz_has (h.getD 2 0) (.methodLink own x (zz_M q.2.2.1).1) && decide (q.2.2.2.1 = 2) else zz_okC h q.2.2.1 q.2.2.2.1 && zz_has (h.getD 2 0) (.methodLink own x (zz_M q.2.2.1).1) && zz_has (h.getD 3 0) (.static (zz_M q.2.2.1).1)
  | .invokespecial x => if q.2.2.1 = 999 then zz_has (h.getD 0 0) (.methodLink own x Lib.objectInit) && zz_has (h.getD 1 0) (.instanceMethod Lib.objectInit) && zz_has (h.getD 2 0) (.code Lib.objectInit ⟨#[0xb1]⟩ 1 none)
    else if q.2.2.1 = 998 then true else decide (1 ≤ q.2.2.2.1) && zz_okC h q.2.2.1 (q.2.2.2.1 - 1) && decide ((zz_M q.2.2.1).1.name = "<init>") && decide ((zz_M q.2.2.1).2.2.2.1 = none) && zz_has (h.getD 3 0) (.instanceMethod (zz_M q.2.2.1).1) && (if q.2.2.2.2 = 0 then zz_has (h.getD 2 0) (.methodLink own x (zz_M q.2.2.1).1) else zz_has2 (h.getD 2 0) (.methodLinkNest own x (zz_M q.2.2.1).1 "OneStageTwoPlays"))
  | .ireturn => rt.isSome
  | .lreturn => decide (rt = some .long)
  | .return_ => decide (rt = none)
  | _ => true
def zz_okI (h : List Nat) (m : zz_MI) (q : zz_i) : Bool := decide (decode m.2.1 q.1 = .ok (q.2.1, zz_ln q)) && zz_okX h m.1.cls m.1.name m.2.2.1 m.2.2.2.1 q
def zz_okB (hs : List (Nat × List Nat)) (m : zz_MI) (e : Nat) : Nat → List zz_i → Bool
  | pc, [] => pc == e
  | pc, q :: is => q.1 == pc && zz_okI ((hs.lookup pc).getD []) m q && (if zz_term q.2.1 = true then true else zz_okB hs m e (pc + zz_len q.2.1) is)
/-- every block of a method is what its bytes and the tables say; what it returns fits its instructions -/
def zz_okM (hs : List (Nat × List Nat)) (m : zz_MI) : Bool := decide (m.2.2.1 ≤ 40) && m.2.2.2.2.all fun z => zz_okB hs m z.2.1 z.1 z.2.2

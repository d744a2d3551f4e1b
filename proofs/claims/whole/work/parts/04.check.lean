noncomputable def q_tb : List Cond := lw_tbl.filter goodWord
noncomputable def q_w (p : Nat) : Option Cond := lw_tbl[p]?
def q_nxt (cd : List q_Ent) (i p : Nat) : Bool := match cd[i + 1]? with
  | some e => Nat.beq e.1 p
  | none => false
def q_tgt (cd : List q_Ent) (a pc : Nat) (off : Int) : Bool := match cd[a]? with
  | some e => decide ((pc : Int) + off = (e.1 : Int))
  | none => false
noncomputable def q_okF (own : String) (idx a b c : Nat) : Bool := match vwCl[a]? with
  | some (_, T, N) => Nat.blt b N && decide (q_w c = some (.fieldLink own idx (T b).1 (T b).2.1 (T b).2.2.1))
  | none => false
noncomputable def q_okP (own : String) (init : Bool) (a b d : Nat) : Bool := match vwCl[a]? with
  | some (_, T, _) => ((T b).2.2.2 == false || (init && decide ((T b).1 = own))) && (match parseFieldDescriptor (T b).2.2.1 with
    | some .int => Nat.beq d 0
    | some (.object _) => Nat.beq d 1
    | some (.array _) => Nat.beq d 1
    | _ => false)
  | none => false
noncomputable def q_okA (own : String) (idx a c : Nat) : Bool := match vwCl[a]? with
  | some (C, _, _) => decide (q_w c = some (.classLink own idx C))
  | none => false
noncomputable def q_okR (k a b : Nat) : Bool := Nat.blt a 205 && (Nat.beq b (q_nu a 2) && (Nat.ble (q_nu a 3 + 1) (q_nu k 3) && Nat.ble (8 + ((q_mi a).2.2.1 + 11) + q_nu a 4) (q_nu k 4)))
noncomputable def q_okL (own : String) (idx a d : Nat) : Bool := decide (q_w d = some (.methodLink own idx (q_mi a).1))
noncomputable def q_okN (own : String) (idx a d : Nat) : Bool := decide (q_w d = some (.methodLinkNest own idx (q_mi a).1 "ThrownMarks"))
/-- what an instruction wants of the tables -/
noncomputable def q_okI (k : Nat) (own : String) (init : Bool) (cd : List q_Ent) (i pc len : Nat) (ins : Instr) (a b c d : Nat) : Bool := match ins with
  | .iload _ => Nat.beq len 2 && q_nxt cd i (pc + 2)
  | .lload _ => Nat.beq len 2 && q_nxt cd i (pc + 2)
  | .istore _ => Nat.beq len 2 && q_nxt cd i (pc + 2)
  | .bipush _ => Nat.beq len 2 && q_nxt cd i (pc + 2)
  | .sipush _ => Nat.beq len 3 && q_nxt cd i (pc + 3)
  | .iinc _ _ => Nat.beq len 3 && q_nxt cd i (pc + 3)
  | .ldc_w idx => Nat.beq len 3 && q_nxt cd i (pc + 3) && decide (q_w c = some (.constant own idx (Int32.ofNat a)))
  | .ldc2_w idx => Nat.beq len 3 && q_nxt cd i (pc + 3) && decide (q_w c = some (.constantLong own idx (Int64.ofNat a)))
  | .getfield idx => Nat.beq len 3 && q_nxt cd i (pc + 3) && q_okF own idx a b c
  | .putfield idx => Nat.beq len 3 && q_nxt cd i (pc + 3) && q_okF own idx a b c && q_okP own init a b d
  | .new idx => Nat.beq len 3 && q_nxt cd i (pc + 3) && q_okA own idx a c
  | .newarray t => Nat.beq len 2 && q_nxt cd i (pc + 2) && (match t with
    | .int => Nat.beq a 0
    | .boolean => Nat.beq a 1
    | _ => false)
  | .anewarray idx => Nat.beq len 3 && q_nxt cd i (pc + 3) && q_okA own idx a c && (Nat.beq a 0 || Nat.beq a 5)
  | .goto off => Nat.beq len 3 && q_tgt cd a pc off
  | .ifCond _ off => Nat.beq len 3 && q_nxt cd i (pc + 3) && q_tgt cd a pc off
  | .if_icmp _ off => Nat.beq len 3 && q_nxt cd i (pc + 3) && q_tgt cd a pc off
  | .tableswitch _ _ _ _ => true
  | .lookupswitch _ ps => (ps.toList.zip (ps.toList.drop 1)).all (fun (a, next) => a.1 < next.1)
  | .invokevirtual idx => Nat.beq len 3 && q_nxt cd i (pc + 3) && q_okR k a b && q_okL own idx a d && Nat.beq (q_nu a 0) 1
  | .invokestatic idx => Nat.beq len 3 && q_nxt cd i (pc + 3) && (bif Nat.beq c 7 then decide (q_w d = some (.methodLink own idx arraycopyName)) && Nat.ble 1 (q_nu k 3) && Nat.ble 26 (q_nu k 4) else bif Nat.beq c 8 then decide (q_w d = some (.methodLink own idx Lib.Math.min.name)) && Nat.ble 1 (q_nu k 3) && Nat.ble 21 (q_nu k 4) else q_okR k a b && Nat.beq (q_nu a 0) 0 && (bif Nat.beq c 1 then q_okL own idx a d else q_okN own idx a d))
  | .invokespecial idx => Nat.beq len 3 && q_nxt cd i (pc + 3) && (bif Nat.beq c 6 then decide (q_w d = some (.methodLink own idx objectInit)) && Nat.ble 1 (q_nu k 3) && Nat.ble 20 (q_nu k 4) else q_okR k a b && Nat.beq (q_nu a 0) 2 && (bif Nat.beq c 2 then q_okL own idx a d else q_okN own idx a d))
  | .ireturn => Nat.beq len 1 && (decide ((q_mi k).2.2.2 = some .int) || decide ((q_mi k).2.2.2 = some .boolean))
  | .areturn => Nat.beq len 1 && decide ((q_mi k).2.2.2 = some (.object "ThrownMarks$Card"))
  | .return_ => Nat.beq len 1 && decide ((q_mi k).2.2.2 = none)
  | _ => Nat.beq len 1 && q_nxt cd i (pc + 1)
noncomputable def q_okE (k : Nat) (cd : List q_Ent) (i : Nat) (e : q_Ent) : Bool :=
  decide (decode (q_mi k).2.1 e.1 = .ok (e.2.2.1, e.2.1)) && q_okI k (q_mi k).1.cls (decide ((q_mi k).1.name = "<init>")) cd i e.1 e.2.1 e.2.2.1 e.2.2.2.1 e.2.2.2.2.1 e.2.2.2.2.2.1 e.2.2.2.2.2.2
noncomputable def q_okCd (k : Nat) : Bool := match (q_cd k)[0]? with
  | some e => Nat.beq e.1 0 && (q_cd k).zipIdx.all fun q => q_okE k (q_cd k) q.2 q.1
  | none => false
noncomputable def q_okM (k : Nat) : Bool :=
  decide (q_w (q_nu k 7) = some (.code (q_mi k).1 (q_mi k).2.1 (q_mi k).2.2.1 (q_mi k).2.2.2)) && (decide (q_w (q_nu k 8) = some (.initialized (q_mi k).1.cls)) &&
  (decide ((q_mi k).1.cls ≠ "java/lang/invoke/MethodHandle" ∧ (q_mi k).1.cls ≠ "java/lang/invoke/VarHandle") && (plainName (q_mi k).1.cls &&
  (bif Nat.beq (q_nu k 0) 0 then decide (q_w (q_nu k 10) = some (.static (q_mi k).1)) && decide ((parseMethodDescriptor (q_mi k).1.desc).map (fun d => d.parameters.length) = some (q_nu k 2))
    else decide (q_w (q_nu k 9) = some (.instanceMethod (q_mi k).1)) && (Nat.blt 0 (q_nu k 2) && (decide ((parseMethodDescriptor (q_mi k).1.desc).map (fun d => d.parameters.length) = some (q_nu k 2 - 1)) && (bif Nat.beq (q_nu k 0) 1 then decide (q_w (q_nu k 10) = some (.selects (q_mi k).1.cls (q_mi k).1 (q_mi k).1)) && decide ((vwCl[q_nu k 1]?).map (fun q => q.1) = some (q_mi k).1.cls) else decide ((q_mi k).1.name = "<init>") && decide ((q_mi k).2.2.2 = none))))))))

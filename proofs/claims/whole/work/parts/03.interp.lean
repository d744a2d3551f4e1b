/-! a shape: an array of ints (false) or booleans (true); an object with its references; an array of references to objects of a class -/
abbrev q_Sh : Type := (Bool × Nat) ⊕ ((Nat × List (Option (Option Nat))) ⊕ (Nat × List (Option Nat)))
/-- what there is: shapes, and the ints of each thing -/
abbrev q_Mm : Type := List q_Sh × (Nat → Nat → Int32)
/-- a frame: place in the code, locals, stack, cells and slots made -/
abbrev q_Fr : Type := Nat × List (Option Value) × List Value × Nat × Nat
abbrev q_X : Type := Option (Nat × (Nat → Int32))
abbrev q_Out : Type := (q_Fr × q_Mm) ⊕ (Option Value ⊕ (Nat × List Value × q_Fr))
def q_up (M : Nat → Nat → Int32) (i : Nat) (f : Nat → Int32) : Nat → Nat → Int32 := fun a => if a = i then f else M a
def q_in (i : Int32) (n : Nat) : Bool := !(decide (i < 0)) && Nat.blt i.toNatClampNeg n
def q_cs (l : List Value) : Nat := (l.map fun v => v.category).sum
def q_cmp (c : ClassFile.Cond) (x y : Int32) : Bool := match c with
  | .eq => decide (x = y)
  | .ne => !decide (x = y)
  | .lt => decide (x < y)
  | .ge => decide (y ≤ x)
  | .gt => decide (y < x)
  | .le => decide (x ≤ y)
def q_bin (f : Int32 → Int32 → Int32) (st : List Value) : Option (List Value) := match st with
  | .int y :: .int x :: r => some (.int (f x y) :: r)
  | _ => none
def q_binL (f : Int64 → Int64 → Int64) (st : List Value) : Option (List Value) := match st with
  | .long y :: .long x :: r => some (.long (f x y) :: r)
  | _ => none
def q_shL (f : Int64 → Int32 → Int64) (st : List Value) : Option (List Value) := match st with
  | .int y :: .long x :: r => some (.long (f x y) :: r)
  | _ => none
def q_ck (b : Bool) (r : Option (List Value)) : Option (List Value) := bif b then r else none
/-- what does nothing but to the stack -/
def q_sop (ins : Instr) (a : Nat) (st : List Value) : Option (List Value) := match ins with
  | .iconst n => some (.int (Int32.ofInt n) :: st)
  | .bipush n => some (.int (Int8.ofInt n).toInt32 :: st)
  | .sipush n => some (.int (Int16.ofInt n).toInt32 :: st)
  | .lconst n => some (.long (Int64.ofNat n.val) :: st)
  | .ldc_w _ => some (.int (Int32.ofNat a) :: st)
  | .ldc2_w _ => some (.long (Int64.ofNat a) :: st)
  | .iadd => q_bin (fun x y => x + y) st
  | .isub => q_bin (fun x y => x - y) st
  | .imul => q_bin (fun x y => x * y) st
  | .idiv => match st with
    | .int y :: .int x :: r => q_ck (!decide (y = 0)) (some (.int (x / y) :: r))
    | _ => none
  | .irem => match st with
    | .int y :: .int x :: r => q_ck (!decide (y = 0)) (some (.int (x - x / y * y) :: r))
    | _ => none
  | .iand => q_bin (fun x y => x &&& y) st
  | .ior => q_bin (fun x y => x ||| y) st
  | .ixor => q_bin (fun x y => x ^^^ y) st
  | .ishl => q_bin (fun x y => x <<< (y &&& 31)) st
  | .ishr => q_bin (fun x y => x >>> (y &&& 31)) st
  | .iushr => q_bin (fun x y => (x.toUInt32 >>> (y.toUInt32 &&& Int32.toUInt32 31)).toInt32) st
  | .land => q_binL (fun x y => x &&& y) st
  | .lor => q_binL (fun x y => x ||| y) st
  | .lshl => q_shL (fun x y => x <<< (y.toInt64 &&& 63)) st
  | .lshr => q_shL (fun x y => x >>> (y.toInt64 &&& 63)) st
  | .lushr => q_shL (fun x y => (x.toUInt64 >>> (y.toInt64.toUInt64 &&& Int64.toUInt64 63)).toInt64) st
  | .lcmp => match st with
    | .long y :: .long x :: r => some (.int (lg_cmp x y) :: r)
    | _ => none
  | .i2l => match st with
    | .int x :: r => some (.long x.toInt64 :: r)
    | _ => none
  | .l2i => match st with
    | .long x :: r => some (.int x.toInt32 :: r)
    | _ => none
  | .dup => match st with
    | v :: r => q_ck (Nat.beq v.category 1) (some (v :: v :: r))
    | _ => none
  | .dup2 => match st with
    | v :: w :: r => q_ck (Nat.beq v.category 1 && Nat.beq w.category 1) (some (v :: w :: v :: w :: r))
    | _ => none
  | .pop => match st with
    | v :: r => q_ck (Nat.beq v.category 1) (some r)
    | _ => none
  | _ => none
def q_ty (v : Value) : Nat := match v with
  | .int _ => 0
  | .long _ => 1
  | .ref _ => 2
  | .retAddr _ => 2
  | _ => 3
/-- the frame that comes next, with this stack -/
def q_nx (fr : q_Fr) (st : List Value) : q_Fr := (fr.1 + 1, fr.2.1, st, fr.2.2.2)
def q_to (fr : q_Fr) (t : Nat) (st : List Value) : q_Fr := (t, fr.2.1, st, fr.2.2.2)
def q_go (fr : q_Fr) (m : q_Mm) : Option q_Out := some (.inl (fr, m))
def q_ld (ty n : Nat) (fr : q_Fr) (m : q_Mm) : Option q_Out := match fr.2.1[n]? with
  | some (some v) => bif Nat.beq (q_ty v) ty then q_go (q_nx fr (v :: fr.2.2.1)) m else none
  | _ => none
/-- no long lies just below -/
def q_okst (al : List (Option Value)) (n : Nat) : Bool := match n with
  | 0 => true
  | j + 1 => match al[j]? with
    | some (some v) => Nat.beq v.category 1
    | _ => true
def q_sto (ty n : Nat) (fr : q_Fr) (m : q_Mm) : Option q_Out := match fr.2.2.1 with
  | v :: r => bif Nat.beq (q_ty v) ty && (q_okst fr.2.1 n && Nat.blt n fr.2.1.length) then q_go (fr.1 + 1, fr.2.1.set n (some v), r, fr.2.2.2) m else none
  | _ => none
def q_inc (n : Nat) (d : Int) (fr : q_Fr) (m : q_Mm) : Option q_Out := match fr.2.1[n]? with
  | some (some (.int x)) => bif q_okst fr.2.1 n && Nat.blt n fr.2.1.length then q_go (fr.1 + 1, fr.2.1.set n (some (.int (x + Int32.ofInt d))), fr.2.2.1, fr.2.2.2) m else none
  | _ => none
def q_fv (M : Nat → Nat → Int32) (id b : Nat) (o : Option (Option Nat)) : Value := match o with
  | none => .int (M id b)
  | some none => .null
  | some (some q) => .ref q
def q_get (ci b : Nat) (fr : q_Fr) (m : q_Mm) : Option q_Out := match fr.2.2.1 with
  | .ref id :: r => match m.1[id]? with
    | some (.inr (.inl (cj, fs))) => bif Nat.beq ci cj then (match fs[b]? with
      | some o => q_go (q_nx fr (q_fv m.2 id b o :: r)) m
      | none => none) else none
    | _ => none
  | _ => none
def q_put (ci b d : Nat) (fr : q_Fr) (m : q_Mm) : Option q_Out := match fr.2.2.1 with
  | v :: .ref id :: r => match m.1[id]? with
    | some (.inr (.inl (cj, fs))) => bif Nat.beq ci cj then (match fs[b]?, v with
      | some none, .int x => bif Nat.beq d 0 then q_go (q_nx fr r) (m.1, q_up m.2 id (upd (m.2 id) b x)) else none
      | some (some _), .ref q => bif Nat.beq d 1 then q_go (q_nx fr r) (m.1.set id (.inr (.inl (cj, fs.set b (some (some q))))), m.2) else none
      | _, _ => none) else none
    | _ => none
  | _ => none
def q_ald (X : q_X) (bo : Bool) (fr : q_Fr) (m : q_Mm) : Option q_Out := match fr.2.2.1 with
  | .int i :: .ref id :: r => match m.1[id]? with
    | some (.inl (bb, n)) => bif (bb == bo) && q_in i n then q_go (q_nx fr (.int (m.2 id i.toNatClampNeg) :: r)) m else none
    | _ => none
  | .int i :: .retAddr _ :: r => match X with
    | some (n, xs) => bif (bo == false) && q_in i n then q_go (q_nx fr (.int (xs i.toNatClampNeg) :: r)) m else none
    | none => none
  | _ => none
def q_ast (bo : Bool) (fr : q_Fr) (m : q_Mm) : Option q_Out := match fr.2.2.1 with
  | .int x :: .int i :: .ref id :: r => match m.1[id]? with
    | some (.inl (bb, n)) => bif (bb == bo) && q_in i n then q_go (q_nx fr r) (m.1, q_up m.2 id (upd (m.2 id) i.toNatClampNeg (bif bo then vp_nar .boolean x else x))) else none
    | _ => none
  | _ => none
def q_ra (o : Option Nat) : Value := match o with
  | some q => .ref q
  | none => .null
def q_qld (fr : q_Fr) (m : q_Mm) : Option q_Out := match fr.2.2.1 with
  | .int i :: .ref id :: r => match m.1[id]? with
    | some (.inr (.inr (ci, rs))) => bif (Nat.beq ci 0 || Nat.beq ci 5) && q_in i rs.length then q_go (q_nx fr (q_ra (rs.getD i.toNatClampNeg none) :: r)) m else none
    | _ => none
  | _ => none
def q_qst (fr : q_Fr) (m : q_Mm) : Option q_Out := match fr.2.2.1 with
  | .ref v :: .int i :: .ref id :: r => match m.1[id]?, m.1[v]? with
    | some (.inr (.inr (ci, rs))), some (.inr (.inl (cj, _))) => bif (Nat.beq ci 0 || Nat.beq ci 5) && (Nat.beq ci cj && q_in i rs.length) then q_go (q_nx fr r) (m.1.set id (.inr (.inr (ci, rs.set i.toNatClampNeg (some v)))), m.2) else none
    | _, _ => none
  | _ => none
def q_len (X : q_X) (fr : q_Fr) (m : q_Mm) : Option q_Out := match fr.2.2.1 with
  | .ref id :: r => match m.1[id]? with
    | some (.inl (_, n)) => q_go (q_nx fr (.int (Int32.ofNat n) :: r)) m
    | _ => none
  | .retAddr _ :: r => match X with
    | some (n, _) => q_go (q_nx fr (.int (Int32.ofNat n) :: r)) m
    | none => none
  | _ => none
/-- a new object's references -/
noncomputable def q_born (ci : Nat) : List (Option (Option Nat)) := match vwCl[ci]? with
  | some (_, T, N) => (List.range N).map fun k => match parseFieldDescriptor (T k).2.2.1 with
    | some .int => none
    | _ => some none
  | none => []
noncomputable def q_mc (k : Nat) : Nat := q_nu k 5
noncomputable def q_ms (k : Nat) : Nat := q_nu k 6
/-- a new thing of so many slots -/
def q_mk (k2 : Nat × Nat) (sh : q_Sh) (w : Nat) (fr : q_Fr) (r : List Value) (m : q_Mm) : Option q_Out :=
  bif Nat.ble (fr.2.2.2.1 + 1) k2.1 && Nat.ble (fr.2.2.2.2 + w) k2.2 then q_go (fr.1 + 1, fr.2.1, .ref m.1.length :: r, fr.2.2.2.1 + 1, fr.2.2.2.2 + w) (m.1 ++ [sh], q_up m.2 m.1.length (fun _ => 0)) else none
def q_nar (k2 : Nat × Nat) (a : Nat) (fr : q_Fr) (m : q_Mm) : Option q_Out := match fr.2.2.1 with
  | .int n :: r => bif !(decide (n < 0)) && Nat.ble n.toNatClampNeg 100000 then q_mk k2 (.inl (Nat.beq a 1, n.toNatClampNeg)) n.toNatClampNeg fr r m else none
  | _ => none
def q_nqr (k2 : Nat × Nat) (ci : Nat) (fr : q_Fr) (m : q_Mm) : Option q_Out := match fr.2.2.1 with
  | .int n :: r => bif !(decide (n < 0)) && Nat.ble n.toNatClampNeg 100000 then q_mk k2 (.inr (.inr (ci, List.replicate n.toNatClampNeg none))) n.toNatClampNeg fr r m else none
  | _ => none
/-- the receiver is of that class -/
def q_rcv (ci : Nat) (as : List Value) (m : q_Mm) : Bool := match as with
  | .ref id :: _ => match m.1[id]? with
    | some (.inr (.inl (cj, _))) => Nat.beq ci cj
    | _ => false
  | _ => false
def q_isr (as : List Value) : Bool := match as with
  | .ref _ :: _ => true
  | _ => false
def q_pre (kind ci : Nat) (as : List Value) (m : q_Mm) : Bool := bif Nat.beq kind 0 then q_rcv ci as m else bif Nat.beq kind 2 || Nat.beq kind 5 then q_isr as else true
def q_copy (fr : q_Fr) (m : q_Mm) : Option q_Out := match fr.2.2.1 with
  | .int n :: .int dp :: .ref d :: .int sp :: .ref s :: r => match m.1[s]?, m.1[d]? with
    | some (.inl (false, ns)), some (.inl (false, nd)) =>
      bif (!(decide (sp < 0)) && (!(decide (dp < 0)) && !(decide (n < 0)))) && (Nat.ble (sp.toNatClampNeg + n.toNatClampNeg) ns && (Nat.ble (dp.toNatClampNeg + n.toNatClampNeg) nd && Nat.ble (q_cs r) 8)) then
        q_go (q_nx fr r) (m.1, q_up m.2 d (va_cpy (m.2 s) (m.2 d) sp.toNatClampNeg dp.toNatClampNeg n.toNatClampNeg)) else none
    | _, _ => none
  | _ => none
def q_lay (l : List Value) : List (Option Value) := match l with
  | [] => []
  | v :: r => bif Nat.beq v.category 2 then some v :: none :: q_lay r else some v :: q_lay r
noncomputable def q_inv (k : Nat) (a b c : Nat) (fr : q_Fr) (m : q_Mm) : Option q_Out :=
  bif Nat.ble b fr.2.2.1.length && (Nat.ble (q_cs (fr.2.2.1.drop b)) 8 && (Nat.ble (q_lay (fr.2.2.1.take b).reverse).length (q_mi a).2.2.1 && (q_pre c (q_nu a 1) (fr.2.2.1.take b).reverse m && (Nat.ble (fr.2.2.2.1 + q_mc a) (q_mc k) && Nat.ble (fr.2.2.2.2 + q_ms a) (q_ms k))))) then
    some (.inr (.inr (a, (fr.2.2.1.take b).reverse, (fr.1 + 1, fr.2.1, fr.2.2.1.drop b, fr.2.2.2.1 + q_mc a, fr.2.2.2.2 + q_ms a)))) else none
def q_obi (fr : q_Fr) (m : q_Mm) : Option q_Out := match fr.2.2.1 with
  | .ref _ :: r => bif Nat.ble (q_cs r) 8 then q_go (q_nx fr r) m else none
  | _ => none
/-- Math.min -/
def q_min (k2 : Nat × Nat) (fr : q_Fr) (m : q_Mm) : Option q_Out := match fr.2.2.1 with
  | .int y :: .int x :: r => bif Nat.ble (q_cs r) 8 && (Nat.ble fr.2.2.2.1 k2.1 && Nat.ble fr.2.2.2.2 k2.2) then q_go (q_nx fr (.int (if y < x then y else x) :: r)) m else none
  | _ => none
/-- a place in the code, by its byte -/
def q_at (cd : List q_Ent) (t : Int) : Option Nat := cd.findIdx? fun e => decide ((e.1 : Int) = t)
def q_swo (lo hi d : Int) (offs : Array Int) (x : Int32) : Option Int := bif decide (x.toInt < lo) || decide (hi < x.toInt) then some d else offs[(x.toInt - lo).toNat]?
def q_sw (cd : List q_Ent) (pc : Nat) (o : Option Int) (fr : q_Fr) (r : List Value) (m : q_Mm) : Option q_Out := match o with
  | some off => match q_at cd ((pc : Int) + off) with
    | some t => q_go (q_to fr t r) m
    | none => none
  | none => none
/-- an int that may be answered -/
def q_rok (rt : Option FieldType) (x : Int32) : Bool := match rt with
  | some .int => true
  | some .boolean => decide (x = 0) || decide (x = 1)
  | _ => false
noncomputable def q_ins (X : q_X) (k : Nat) (cd : List q_Ent) (pc : Nat) (ins : Instr) (a b c d : Nat) (fr : q_Fr) (m : q_Mm) : Option q_Out := match ins with
  | .iload_n n => q_ld 0 n.val fr m
  | .iload n => q_ld 0 n fr m
  | .lload_n n => q_ld 1 n.val fr m
  | .lload n => q_ld 1 n fr m
  | .aload_n n => q_ld 2 n.val fr m
  | .istore_n n => q_sto 0 n.val fr m
  | .istore n => q_sto 0 n fr m
  | .astore_n n => q_sto 2 n.val fr m
  | .iinc n d => q_inc n d fr m
  | .getfield _ => q_get a b fr m
  | .putfield _ => q_put a b d fr m
  | .iaload => q_ald X false fr m
  | .baload => q_ald X true fr m
  | .iastore => q_ast false fr m
  | .bastore => q_ast true fr m
  | .aaload => q_qld fr m
  | .aastore => q_qst fr m
  | .arraylength => q_len X fr m
  | .new _ => q_mk (q_mc k, q_ms k) (.inr (.inl (a, q_born a))) (q_born a).length fr fr.2.2.1 m
  | .newarray _ => q_nar (q_mc k, q_ms k) a fr m
  | .anewarray _ => q_nqr (q_mc k, q_ms k) a fr m
  | .goto _ => q_go (q_to fr a fr.2.2.1) m
  | .ifCond c _ => match fr.2.2.1 with
    | .int x :: r => q_go (q_to fr (bif q_cmp c x 0 then a else fr.1 + 1) r) m
    | _ => none
  | .if_icmp c _ => match fr.2.2.1 with
    | .int y :: .int x :: r => q_go (q_to fr (bif q_cmp c x y then a else fr.1 + 1) r) m
    | _ => none
  | .tableswitch d lo hi offs => match fr.2.2.1 with
    | .int x :: r => q_sw cd pc (q_swo lo hi d offs x) fr r m
    | _ => none
  | .lookupswitch d ps => match fr.2.2.1 with
    | .int x :: r => q_sw cd pc (some (Op.lookupswitch.offset ps.toList d x.toInt)) fr r m
    | _ => none
  | .ireturn => match fr.2.2.1 with
    | [.int x] => bif q_rok (q_mi k).2.2.2 x && (Nat.ble fr.2.2.2.1 (q_mc k) && Nat.ble fr.2.2.2.2 (q_ms k)) then some (.inr (.inl (some (.int x)))) else none
    | _ => none
  | .areturn => match fr.2.2.1 with
    | [.ref q] => bif Nat.ble fr.2.2.2.1 (q_mc k) && Nat.ble fr.2.2.2.2 (q_ms k) then some (.inr (.inl (some (.ref q)))) else none
    | _ => none
  | .return_ => match fr.2.2.1 with
    | [] => bif Nat.ble fr.2.2.2.1 (q_mc k) && Nat.ble fr.2.2.2.2 (q_ms k) then some (.inr (.inl none)) else none
    | _ => none
  | .invokevirtual _ => bif Nat.beq c 0 then q_inv k a b c fr m else none
  | .invokestatic _ => bif Nat.beq c 7 then q_copy fr m else bif Nat.beq c 8 then q_min (q_mc k, q_ms k) fr m else bif Nat.beq c 1 || Nat.beq c 4 then q_inv k a b c fr m else none
  | .invokespecial _ => bif Nat.beq c 6 then q_obi fr m else bif Nat.beq c 2 || Nat.beq c 5 then q_inv k a b c fr m else none
  | i => match q_sop i a fr.2.2.1 with
    | some st => q_go (q_nx fr st) m
    | none => none
noncomputable def q_step (X : q_X) (k : Nat) (fr : q_Fr) (m : q_Mm) : Option q_Out := match (q_cd k)[fr.1]? with
  | some e => q_ins X k (q_cd k) e.1 e.2.2.1 e.2.2.2.1 e.2.2.2.2.1 e.2.2.2.2.2.1 e.2.2.2.2.2.2 fr m
  | none => none
noncomputable def q_ent (k : Nat) (as : List Value) : q_Fr := (0, q_lay as ++ List.replicate ((q_mi k).2.2.1 - (q_lay as).length) none, [], 0, 0)
def q_ret (v : Option Value) (fr : q_Fr) : q_Fr := (fr.1, fr.2.1, v.toList ++ fr.2.2.1, fr.2.2.2)
noncomputable def q_exec (n : Nat) (X : q_X) (k : Nat) (fr : q_Fr) (m : q_Mm) : Option (Option Value × q_Mm) := match n with
  | 0 => none
  | n + 1 => match q_step X k fr m with
    | none => none
    | some (.inl (fr', m')) => q_exec n X k fr' m'
    | some (.inr (.inl v)) => some (v, m)
    | some (.inr (.inr (k', as, fr'))) => match q_exec n none k' (q_ent k' as) m with
      | none => none
      | some (v, m') => q_exec n X k (q_ret v fr') m'

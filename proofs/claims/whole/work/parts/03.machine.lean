/-! ===== THE ABSTRACT MACHINE: ints are representatives modulo 2^32 (no wrap-around in + - *), references are indices into a list of cells ===== -/
/-- a value: an int, a long, a reference (or null), something older than the run (0 the script, 1 + i a String constant, 100 + i its bytes, 900 a formatter, 1000 nothing) -/
abbrev AV : Type := Int ⊕ (Int ⊕ (Option Nat ⊕ Nat))
/-- a cell: an array of ints (0), bytes (1), booleans (2); an array of benches; an object -/
abbrev AC : Type := (Nat × Nat × (Int → Int)) ⊕ ((Nat × (Int → Option Nat)) ⊕ (Nat × List AV))
abbrev AH : Type := List AC
def jk : AV := .inr (.inr (.inr 1000))
def inR (z : Int) : Prop := -2147483648 ≤ z ∧ z < 2147483648
def aUp {α : Type} (f : Int → α) (i : Int) (v : α) : Int → α := fun k => if k = i then v else f k
def bAnd (a b : Int) : Int := (Int32.ofInt a &&& Int32.ofInt b).toInt
def bOr (a b : Int) : Int := (Int32.ofInt a ||| Int32.ofInt b).toInt
def bXor (a b : Int) : Int := (Int32.ofInt a ^^^ Int32.ofInt b).toInt
def bShl (a b : Int) : Int := (Int32.ofInt a <<< (Int32.ofInt b &&& 31)).toInt
def bShr (a b : Int) : Int := (Int32.ofInt a >>> (Int32.ofInt b &&& 31)).toInt
def bUshr (a b : Int) : Int := ((Int32.ofInt a).toUInt32 >>> ((Int32.ofInt b).toUInt32 &&& Int32.toUInt32 31)).toInt32.toInt
def bByte (a : Int) : Int := (Int32.ofInt a).toInt8.toInt32.toInt
def bChar (a : Int) : Int := ((Int32.ofInt a).toUInt32 % 65536).toInt32.toInt
def lAnd (a b : Int) : Int := (Int64.ofInt a &&& Int64.ofInt b).toInt
def lUshr (a b : Int) : Int := ((Int64.ofInt a).toUInt64 >>> ((Int32.ofInt b).toInt64.toUInt64 &&& Int64.toUInt64 63)).toInt64.toInt
def l2iI (a : Int) : Int := (Int64.ofInt a).toInt32.toInt
/-- the String constants of the reader -/
def aStr : List (List Int) := [[98, 121], [108, 101, 97, 115, 116], [109, 111, 115, 116], [100, 97, 116, 101], [97, 103, 101], [119, 111, 114, 116, 104], [119, 105, 100, 116, 104], [101, 121, 101]]
def aSL (i : Nat) : List Int := aStr.getD i []
/-- what a field of a new object holds -/
def aDef1 : FieldType → AV
  | .object _ => .inr (.inr (.inl none))
  | .array _ => .inr (.inr (.inl none))
  | _ => .inl 0
def aTy : List (Nat → FieldType) := [tyX0, tyX1, tyX2, tyX3, tyX4, tyX5, tyX6, tyX7, tyX8, tyX0, tyX10, tyX11, tyX12]
def aN : List Nat := aCl.map (fun q => q.2.2)
def aDefs (c : Nat) : List AV := (List.range (aN.getD c 0)).map (fun k => aDef1 (aTy.getD c tyX0 k))
/-- may a field hold it: nothing, or what must hold of it -/
def aFit (ty : FieldType) (v : AV) : Option (Option Prop) :=
  match ty with
  | .int => match v with
    | .inl _ => some none
    | _ => none
  | .boolean => match v with
    | .inl z => some (some (z = 0 ∨ z = 1))
    | _ => none
  | .object _ => match v with
    | .inr (.inr (.inl _)) => some none
    | _ => none
  | .array _ => match v with
    | .inr (.inr (.inl _)) => some none
    | _ => none
  | _ => none
def aIsLong (v : AV) : Bool :=
  match v with
  | .inr (.inl _) => true
  | _ => false
/-- a variable may be set: the place is there, and no long stands before it -/
def aStok (ls : List AV) (i : Nat) : Bool :=
  Nat.blt i ls.length && (match i with
    | 0 => true
    | k + 1 => match ls[k]? with
      | some v => !aIsLong v
      | none => true)
abbrev AR : Type := Option (Option Prop × Option Nat × List AV × List AV × AH × Nat × Nat)
abbrev AX : Type := Nat × (Int → Int)
def sPush (v : AV) (ls st : List AV) (h : AH) (kc ks : Nat) : AR := some (none, none, ls, v :: st, h, kc, ks)
def sLoadI (o : Option AV) (ls st : List AV) (h : AH) (kc ks : Nat) : AR :=
  match o with
  | some (.inl z) => some (none, none, ls, .inl z :: st, h, kc, ks)
  | _ => none
def sLoadL (o : Option AV) (ls st : List AV) (h : AH) (kc ks : Nat) : AR :=
  match o with
  | some (.inr (.inl z)) => some (none, none, ls, .inr (.inl z) :: st, h, kc, ks)
  | _ => none
def sLoadA (o : Option AV) (ls st : List AV) (h : AH) (kc ks : Nat) : AR :=
  match o with
  | some (.inr (.inr (.inl r))) => some (none, none, ls, .inr (.inr (.inl r)) :: st, h, kc, ks)
  | some (.inr (.inr (.inr j))) => match Nat.blt j 900 with
    | true => some (none, none, ls, .inr (.inr (.inr j)) :: st, h, kc, ks)
    | false => none
  | _ => none
def sStoreI (i : Nat) (ls st : List AV) (h : AH) (kc ks : Nat) : AR :=
  match st with
  | .inl z :: r => match aStok ls i with
    | true => some (none, none, ls.set i (.inl z), r, h, kc, ks)
    | false => none
  | _ => none
def sStoreA (i : Nat) (ls st : List AV) (h : AH) (kc ks : Nat) : AR :=
  match st with
  | .inr (.inr (.inl z)) :: r => match aStok ls i with
    | true => some (none, none, ls.set i (.inr (.inr (.inl z))), r, h, kc, ks)
    | false => none
  | _ => none
def sInc (i : Nat) (n : Int) (ls st : List AV) (h : AH) (kc ks : Nat) : AR :=
  match ls[i]? with
  | some (.inl z) => match aStok ls i with
    | true => some (none, none, ls.set i (.inl (z + n)), st, h, kc, ks)
    | false => none
  | _ => none
def sBin (f : Int → Int → Int) (ls st : List AV) (h : AH) (kc ks : Nat) : AR :=
  match st with
  | .inl b :: .inl a :: r => some (none, none, ls, .inl (f a b) :: r, h, kc, ks)
  | _ => none
def sUn (f : Int → Int) (ls st : List AV) (h : AH) (kc ks : Nat) : AR :=
  match st with
  | .inl a :: r => some (none, none, ls, .inl (f a) :: r, h, kc, ks)
  | _ => none
def sDiv (ls st : List AV) (h : AH) (kc ks : Nat) : AR :=
  match st with
  | .inl b :: .inl a :: r => some (some (inR a ∧ inR b ∧ b ≠ 0 ∧ ¬ (a = -2147483648 ∧ b = -1)), none, ls, .inl (Int.tdiv a b) :: r, h, kc, ks)
  | _ => none
def sLushr (ls st : List AV) (h : AH) (kc ks : Nat) : AR :=
  match st with
  | .inl b :: .inr (.inl a) :: r => some (none, none, ls, .inr (.inl (lUshr a b)) :: r, h, kc, ks)
  | _ => none
def sLand (ls st : List AV) (h : AH) (kc ks : Nat) : AR :=
  match st with
  | .inr (.inl b) :: .inr (.inl a) :: r => some (none, none, ls, .inr (.inl (lAnd a b)) :: r, h, kc, ks)
  | _ => none
def sL2i (ls st : List AV) (h : AH) (kc ks : Nat) : AR :=
  match st with
  | .inr (.inl a) :: r => some (none, none, ls, .inl (l2iI a) :: r, h, kc, ks)
  | _ => none
def sDup (ls st : List AV) (h : AH) (kc ks : Nat) : AR :=
  match st with
  | v :: r => match aIsLong v with
    | true => none
    | false => some (none, none, ls, v :: v :: r, h, kc, ks)
  | _ => none
def sDup2 (ls st : List AV) (h : AH) (kc ks : Nat) : AR :=
  match st with
  | v :: w :: r => match aIsLong v || aIsLong w with
    | true => none
    | false => some (none, none, ls, v :: w :: v :: w :: r, h, kc, ks)
  | _ => none
def sPop (ls st : List AV) (h : AH) (kc ks : Nat) : AR :=
  match st with
  | v :: r => match aIsLong v with
    | true => none
    | false => some (none, none, ls, r, h, kc, ks)
  | _ => none
def sLen (X : AX) (ls st : List AV) (h : AH) (kc ks : Nat) : AR :=
  match st with
  | .inr (.inr (.inl (some k))) :: r => match h[k]? with
    | some (.inl (_, n, _)) => some (none, none, ls, .inl n :: r, h, kc, ks)
    | some (.inr (.inl (n, _))) => some (none, none, ls, .inl n :: r, h, kc, ks)
    | _ => none
  | .inr (.inr (.inr j)) :: r => match j with
    | 0 => some (none, none, ls, .inl X.1 :: r, h, kc, ks)
    | 100 => some (none, none, ls, .inl 2 :: r, h, kc, ks)
    | 101 => some (none, none, ls, .inl 5 :: r, h, kc, ks)
    | 102 => some (none, none, ls, .inl 4 :: r, h, kc, ks)
    | 103 => some (none, none, ls, .inl 4 :: r, h, kc, ks)
    | 104 => some (none, none, ls, .inl 3 :: r, h, kc, ks)
    | 105 => some (none, none, ls, .inl 5 :: r, h, kc, ks)
    | 106 => some (none, none, ls, .inl 5 :: r, h, kc, ks)
    | 107 => some (none, none, ls, .inl 3 :: r, h, kc, ks)
    | _ => none
  | _ => none
def aInB (i : Int) (n : Nat) : Prop := 0 ≤ i ∧ i < n ∧ (n : Int) < 2147483648
def sILd (X : AX) (ls st : List AV) (h : AH) (kc ks : Nat) : AR :=
  match st with
  | .inl i :: .inr (.inr (.inl (some k))) :: r => match h[k]? with
    | some (.inl (0, n, f)) => some (some (aInB i n), none, ls, .inl (f i) :: r, h, kc, ks)
    | _ => none
  | .inl i :: .inr (.inr (.inr 0)) :: r => some (some (aInB i X.1), none, ls, .inl (X.2 i) :: r, h, kc, ks)
  | _ => none
def sBLd (ls st : List AV) (h : AH) (kc ks : Nat) : AR :=
  match st with
  | .inl i :: .inr (.inr (.inl (some k))) :: r => match h[k]? with
    | some (.inl (1, n, f)) => some (some (aInB i n), none, ls, .inl (f i) :: r, h, kc, ks)
    | some (.inl (2, n, f)) => some (some (aInB i n), none, ls, .inl (f i) :: r, h, kc, ks)
    | _ => none
  | .inl i :: .inr (.inr (.inr j)) :: r => match Nat.ble 100 j && Nat.blt j 108 with
    | true => some (some (aInB i (aSL (j - 100)).length), none, ls, .inl ((aSL (j - 100)).getD i.toNat 0) :: r, h, kc, ks)
    | false => none
  | _ => none
def sALd (ls st : List AV) (h : AH) (kc ks : Nat) : AR :=
  match st with
  | .inl i :: .inr (.inr (.inl (some k))) :: r => match h[k]? with
    | some (.inr (.inl (n, f))) => some (some (aInB i n), none, ls, .inr (.inr (.inl (f i))) :: r, h, kc, ks)
    | _ => none
  | _ => none
def sISt (ls st : List AV) (h : AH) (kc ks : Nat) : AR :=
  match st with
  | .inl v :: .inl i :: .inr (.inr (.inl (some k))) :: r => match h[k]? with
    | some (.inl (0, n, f)) => some (some (aInB i n), none, ls, r, h.set k (.inl (0, n, aUp f i v)), kc, ks)
    | _ => none
  | _ => none
def sBSt (ls st : List AV) (h : AH) (kc ks : Nat) : AR :=
  match st with
  | .inl v :: .inl i :: .inr (.inr (.inl (some k))) :: r => match h[k]? with
    | some (.inl (1, n, f)) => some (some (aInB i n), none, ls, r, h.set k (.inl (1, n, aUp f i (bByte v))), kc, ks)
    | some (.inl (2, n, f)) => some (some (aInB i n ∧ (v = 0 ∨ v = 1)), none, ls, r, h.set k (.inl (2, n, aUp f i v)), kc, ks)
    | _ => none
  | _ => none
def sASt (ls st : List AV) (h : AH) (kc ks : Nat) : AR :=
  match st with
  | .inr (.inr (.inl (some v))) :: .inl i :: .inr (.inr (.inl (some k))) :: r => match h[k]? with
    | some (.inr (.inl (n, f))) => match h[v]? with
      | some (.inr (.inr (0, _))) => some (some (aInB i n), none, ls, r, h.set k (.inr (.inl (n, aUp f i (some v)))), kc, ks)
      | _ => none
    | _ => none
  | _ => none
def aRoomOk (n : Int) (kc ks : Nat) : Prop := 0 ≤ n ∧ n ≤ 1000000 ∧ 1 ≤ kc ∧ n.toNat ≤ ks
def sNewA (t : Nat) (ls st : List AV) (h : AH) (kc ks : Nat) : AR :=
  match st with
  | .inl n :: r => some (some (aRoomOk n kc ks), none, ls, .inr (.inr (.inl (some h.length))) :: r, h ++ [.inl (t, n.toNat, fun _ => 0)], kc - 1, ks - n.toNat)
  | _ => none
def sNewQ (ls st : List AV) (h : AH) (kc ks : Nat) : AR :=
  match st with
  | .inl n :: r => some (some (aRoomOk n kc ks), none, ls, .inr (.inr (.inl (some h.length))) :: r, h ++ [.inr (.inl (n.toNat, fun _ => none))], kc - 1, ks - n.toNat)
  | _ => none
def sNew (aux : List Nat) (ls st : List AV) (h : AH) (kc ks : Nat) : AR :=
  match aux with
  | [c] => some (some (1 ≤ kc ∧ aN.getD c 0 ≤ ks), none, ls, .inr (.inr (.inl (some h.length))) :: st, h ++ [.inr (.inr (c, aDefs c))], kc - 1, ks - aN.getD c 0)
  | _ => none
def sGet (aux : List Nat) (ls st : List AV) (h : AH) (kc ks : Nat) : AR :=
  match aux with
  | [c, k, _] => match st with
    | .inr (.inr (.inl (some q))) :: r => match h[q]? with
      | some (.inr (.inr (c', fs))) => match Nat.beq c c' with
        | true => match fs[k]? with
          | some v => some (none, none, ls, v :: r, h, kc, ks)
          | none => none
        | false => none
      | _ => none
    | _ => none
  | [100, k] => match st with
    | .inr (.inr (.inr j)) :: r => match Nat.ble 1 j && Nat.ble j 8 with
      | true => match k with
        | 0 => some (none, none, ls, .inr (.inr (.inr (j + 99))) :: r, h, kc, ks)
        | _ => some (none, none, ls, .inl 0 :: r, h, kc, ks)
      | false => none
    | _ => none
  | _ => none
def sPut (aux : List Nat) (ls st : List AV) (h : AH) (kc ks : Nat) : AR :=
  match aux with
  | [c, k, _] => match st with
    | v :: .inr (.inr (.inl (some q))) :: r => match h[q]? with
      | some (.inr (.inr (c', fs))) => match Nat.beq c c' && Nat.blt k fs.length with
        | true => match aFit (aTy.getD c tyX0 k) v with
          | some C => some (C, none, ls, r, h.set q (.inr (.inr (c', fs.set k v))), kc, ks)
          | none => none
        | false => none
      | _ => none
    | _ => none
  | _ => none
def sStat (aux : List Nat) (ls st : List AV) (h : AH) (kc ks : Nat) : AR :=
  match aux with
  | [0] => some (none, none, ls, .inl 1 :: st, h, kc, ks)
  | [1] => some (none, none, ls, .inr (.inr (.inr 900)) :: st, h, kc, ks)
  | _ => none
def aRel (c : ClassFile.Cond) (x y : Int) : Prop :=
  match c with
  | .eq => x = y
  | .ne => ¬ x = y
  | .lt => x < y
  | .ge => y ≤ x
  | .gt => y < x
  | .le => x ≤ y
def sIf (c : ClassFile.Cond) (aux : List Nat) (dn : Nat) (ls st : List AV) (h : AH) (kc ks : Nat) : AR :=
  match st with
  | .inl x :: r => match aux with
    | [t] => match dn with
      | 0 => some (some (inR x ∧ ¬ aRel c x 0), none, ls, r, h, kc, ks)
      | _ => some (some (inR x ∧ aRel c x 0), some t, ls, r, h, kc, ks)
    | _ => none
  | _ => none
def sCmp (c : ClassFile.Cond) (aux : List Nat) (dn : Nat) (ls st : List AV) (h : AH) (kc ks : Nat) : AR :=
  match st with
  | .inl y :: .inl x :: r => match aux with
    | [t] => match dn with
      | 0 => some (some (inR x ∧ inR y ∧ ¬ aRel c x y), none, ls, r, h, kc, ks)
      | _ => some (some (inR x ∧ inR y ∧ aRel c x y), some t, ls, r, h, kc, ks)
    | _ => none
  | _ => none
def sNull (b : Bool) (aux : List Nat) (ls st : List AV) (h : AH) (kc ks : Nat) : AR :=
  match st with
  | .inr (.inr (.inl o)) :: r => match aux with
    | [t] => match o with
      | none => some (none, if b then some t else none, ls, r, h, kc, ks)
      | some _ => some (none, if b then none else some t, ls, r, h, kc, ks)
    | _ => none
  | _ => none
def sGoto (aux : List Nat) (ls st : List AV) (h : AH) (kc ks : Nat) : AR :=
  match aux with
  | [t] => some (none, some t, ls, st, h, kc, ks)
  | _ => none
def sTab (lo hi : Int) (aux : List Nat) (dn : Nat) (ls st : List AV) (h : AH) (kc ks : Nat) : AR :=
  match st with
  | .inl x :: r => match aux with
    | t0 :: ts => match ts[dn]? with
      | some t => some (some (inR x ∧ x = lo + dn), some t, ls, r, h, kc, ks)
      | none => some (some (inR x ∧ (x < lo ∨ hi < x)), some t0, ls, r, h, kc, ks)
    | _ => none
  | _ => none
def sLook (ps : Array (Int × Int)) (aux : List Nat) (dn : Nat) (ls st : List AV) (h : AH) (kc ks : Nat) : AR :=
  match st with
  | .inl x :: r => match aux with
    | [t0, t1, t2] => match ps.toList with
      | [(k1, _), (k2, _)] => match dn with
        | 0 => some (some (inR x ∧ x = k1), some t1, ls, r, h, kc, ks)
        | 1 => some (some (inR x ∧ x = k2), some t2, ls, r, h, kc, ks)
        | _ => some (some (inR x ∧ ¬ x = k1 ∧ ¬ x = k2), some t0, ls, r, h, kc, ks)
      | _ => none
    | _ => none
  | _ => none
def sLdc (aux : List Nat) (ls st : List AV) (h : AH) (kc ks : Nat) : AR :=
  match aux with
  | [0, v] => some (none, none, ls, .inl v :: st, h, kc, ks)
  | [1, i] => some (none, none, ls, .inr (.inr (.inr (i + 1))) :: st, h, kc, ks)
  | _ => none
def sLdc2 (aux : List Nat) (ls st : List AV) (h : AH) (kc ks : Nat) : AR :=
  match aux with
  | [v] => some (none, none, ls, .inr (.inl v) :: st, h, kc, ks)
  | _ => none
/-- one instruction that is neither a call nor an end; dn: which way a branch goes -/
def sim (X : AX) (ins : Instr) (aux : List Nat) (dn : Nat) (ls st : List AV) (h : AH) (kc ks : Nat) : AR :=
  match ins with
  | .iconst n => sPush (.inl n) ls st h kc ks
  | .bipush n => sPush (.inl n) ls st h kc ks
  | .sipush n => sPush (.inl n) ls st h kc ks
  | .ldc _ => sLdc aux ls st h kc ks
  | .ldc2_w _ => sLdc2 aux ls st h kc ks
  | .iload i => sLoadI (ls[i]?) ls st h kc ks
  | .iload_n i => sLoadI (ls[i.val]?) ls st h kc ks
  | .lload_n i => sLoadL (ls[i.val]?) ls st h kc ks
  | .aload i => sLoadA (ls[i]?) ls st h kc ks
  | .aload_n i => sLoadA (ls[i.val]?) ls st h kc ks
  | .istore i => sStoreI i ls st h kc ks
  | .istore_n i => sStoreI i.val ls st h kc ks
  | .astore i => sStoreA i ls st h kc ks
  | .astore_n i => sStoreA i.val ls st h kc ks
  | .iinc i n => sInc i n ls st h kc ks
  | .iadd => sBin (fun a b => a + b) ls st h kc ks
  | .isub => sBin (fun a b => a - b) ls st h kc ks
  | .imul => sBin (fun a b => a * b) ls st h kc ks
  | .iand => sBin bAnd ls st h kc ks
  | .ior => sBin bOr ls st h kc ks
  | .ixor => sBin bXor ls st h kc ks
  | .ishl => sBin bShl ls st h kc ks
  | .ishr => sBin bShr ls st h kc ks
  | .iushr => sBin bUshr ls st h kc ks
  | .ineg => sUn (fun a => -a) ls st h kc ks
  | .i2b => sUn bByte ls st h kc ks
  | .i2c => sUn bChar ls st h kc ks
  | .idiv => sDiv ls st h kc ks
  | .lushr => sLushr ls st h kc ks
  | .land => sLand ls st h kc ks
  | .l2i => sL2i ls st h kc ks
  | .dup => sDup ls st h kc ks
  | .dup2 => sDup2 ls st h kc ks
  | .pop => sPop ls st h kc ks
  | .aconst_null => sPush (.inr (.inr (.inl none))) ls st h kc ks
  | .arraylength => sLen X ls st h kc ks
  | .iaload => sILd X ls st h kc ks
  | .baload => sBLd ls st h kc ks
  | .aaload => sALd ls st h kc ks
  | .iastore => sISt ls st h kc ks
  | .bastore => sBSt ls st h kc ks
  | .aastore => sASt ls st h kc ks
  | .newarray t => match t with
    | .int => sNewA 0 ls st h kc ks
    | .byte => sNewA 1 ls st h kc ks
    | .boolean => sNewA 2 ls st h kc ks
    | _ => none
  | .anewarray _ => sNewQ ls st h kc ks
  | .new _ => sNew aux ls st h kc ks
  | .getfield _ => sGet aux ls st h kc ks
  | .putfield _ => sPut aux ls st h kc ks
  | .getstatic _ => sStat aux ls st h kc ks
  | .goto _ => sGoto aux ls st h kc ks
  | .ifCond c _ => sIf c aux dn ls st h kc ks
  | .if_icmp c _ => sCmp c aux dn ls st h kc ks
  | .ifnull _ => sNull true aux ls st h kc ks
  | .ifnonnull _ => sNull false aux ls st h kc ks
  | .tableswitch _ lo hi _ => sTab lo hi aux dn ls st h kc ks
  | .lookupswitch _ ps => sLook ps aux dn ls st h kc ks
  | _ => none
def aIsBr (ins : Instr) : Bool :=
  match ins with
  | .ifCond _ _ => true
  | .if_icmp _ _ => true
  | .tableswitch _ _ _ _ => true
  | .lookupswitch _ _ => true
  | _ => false
/-- a call: (method, parameters, kind) -/
def aCall (ins : Instr) (aux : List Nat) : Option (Nat × Nat × Nat) :=
  match ins with
  | .invokevirtual _ => match aux with
    | [m, n, k] => some (m, n, k)
    | _ => none
  | .invokespecial _ => match aux with
    | [m, n, k] => some (m, n, k)
    | _ => none
  | .invokestatic _ => match aux with
    | [m, n, k] => some (m, n, k)
    | _ => none
  | _ => none
/-- an end: what must hold, what it returns -/
def aRet (ins : Instr) (ret : Option FieldType) (st : List AV) : Option (Prop × Option AV) :=
  match ins with
  | .ireturn => match st with
    | [.inl z] => match ret with
      | some .int => some (True, some (.inl z))
      | some .boolean => some (z = 0 ∨ z = 1, some (.inl z))
      | some .byte => some (-128 ≤ z ∧ z < 128, some (.inl z))
      | some .char => some (0 ≤ z ∧ z < 65536, some (.inl z))
      | _ => none
    | _ => none
  | .areturn => match st with
    | [.inr (.inr (.inl r))] => match ret with
      | some (.object _) => some (True, some (.inr (.inr (.inl r))))
      | _ => none
    | _ => none
  | .return_ => match st with
    | [] => match ret with
      | none => some (True, none)
      | _ => none
    | _ => none
  | _ => none
def aMd : AM := (⟨"", "", ""⟩, .empty, 0, none, [])
def mA (mi : Nat) : AM := aMs.getD mi aMd
def mE (mi : Nat) : List AE := (mA mi).2.2.2.2
/-- the locals with which a method begins -/
def aArgs : List AV → List AV
  | [] => []
  | v :: vs => match aIsLong v with
    | true => v :: jk :: aArgs vs
    | false => v :: aArgs vs
def aEntry (mi : Nat) (as : List AV) : List AV := (aArgs as) ++ List.replicate ((mA mi).2.2.1 - (aArgs as).length) jk
def aWt (st : List AV) : Nat := (st.map (fun v => match aIsLong v with | true => 2 | false => 1)).sum
/-- the receiver is what the call asks for -/
def aRecv (k : Nat) (mj : Nat) (h : AH) (as : List AV) : Prop :=
  match k with
  | 0 => match as with
    | .inr (.inr (.inl (some q))) :: _ => ∃ c fs, h[q]? = some (.inr (.inr (c, fs))) ∧ (aCl.getD c ("", TX0, 0)).1 = (mA mj).1.cls
    | .inr (.inr (.inr j)) :: _ => 1 ≤ j ∧ j ≤ 8 ∧ (mA mj).1.cls = "java/lang/String"
    | _ => False
  | 1 => match as with
    | .inr (.inr (.inl (some _))) :: _ => True
    | _ => False
  | 4 => match as with
    | .inr (.inr (.inl (some _))) :: _ => True
    | _ => False
  | _ => True
def aNargs (k n : Nat) : Nat := match k with
  | 2 => n
  | 5 => n
  | _ => n + 1
abbrev ACfg : Type := Nat × Nat × Nat × Nat × Nat × List AV × List AV × AH
abbrev AQ : Type := Option AV → AH → Prop
def aHolds (C : Option Prop) : Prop := match C with
  | none => True
  | some c => c
/-- one step, towards P -/
def aStep (X : AX) (P : ACfg → AQ → Prop) (c : ACfg) (Q : AQ) : Prop :=
  match c with
  | (d, kc, ks, mi, j, ls, st, h) => ∃ e : AE, (mE mi)[j]? = some e ∧
    ((∃ dn C t ls' st' h' kc' ks', sim X e.2.2.1 e.2.2.2.2 dn ls st h kc ks = some (C, t, ls', st', h', kc', ks') ∧ aHolds C ∧ P (d, kc', ks', mi, t.getD (j + 1), ls', st', h') Q)
    ∨ (∃ mj n k as rest d' kc1 ks1 kc2 ks2, ∃ Q' : AQ, aCall e.2.2.1 e.2.2.2.2 = some (mj, n, k) ∧ st = as.reverse ++ rest ∧ as.length = aNargs k n ∧ (aWt rest ≤ 8 ∧ (aArgs as).length ≤ (mA mj).2.2.1) ∧ d = d' + 1 ∧ kc = kc1 + kc2 ∧ ks = ks1 + ks2 ∧ aRecv k mj h as ∧ P (d', kc1, ks1, mj, 0, aEntry mj as, [], h) Q' ∧ ∀ r h', Q' r h' → P (d, kc2, ks2, mi, j + 1, ls, r.toList ++ rest, h') Q)
    ∨ (∃ C r, aRet e.2.2.1 (mA mi).2.2.2.1 st = some (C, r) ∧ C ∧ Q r h)
    ∨ (∃ i q rest d', e.2.2.1 = .invokespecial i ∧ e.2.2.2.2 = [7777] ∧ st = .inr (.inr (.inl (some q))) :: rest ∧ aWt rest ≤ 8 ∧ d = d' + 1 ∧ P (d, kc, ks, mi, j + 1, ls, rest, h) Q))
/-- from this configuration the machine comes to an end with Q -/
def AWc (X : AX) (c : ACfg) (Q : AQ) : Prop := ∀ P : ACfg → AQ → Prop, (∀ c Q, aStep X P c Q → P c Q) → P c Q
abbrev AW (X : AX) (d kc ks mi j : Nat) (ls st : List AV) (h : AH) (Q : AQ) : Prop := AWc X (d, kc, ks, mi, j, ls, st, h) Q
theorem aStep_mono {X : AX} {P P' : ACfg → AQ → Prop} (hp : ∀ c Q, P c Q → P' c Q) {c : ACfg} {Q : AQ} (h : aStep X P c Q) : aStep X P' c Q := by
  obtain ⟨d, kc, ks, mi, j, ls, st, hh⟩ := c
  obtain ⟨e, he, h⟩ := h
  refine ⟨e, he, ?_⟩
  rcases h with ⟨dn, C, t, ls', st', h', kc', ks', h1, h2, h3⟩ | ⟨mj, n, k, as, rest, d', kc1, ks1, kc2, ks2, Q', h1, h2, h3, h4, h5, h6, h7, h8, h9, h10⟩ | h | ⟨i, q, rest, d', h1, h2, h3, h4, h5, h6⟩
  · exact Or.inl ⟨dn, C, t, ls', st', h', kc', ks', h1, h2, hp _ _ h3⟩
  · exact Or.inr (Or.inl ⟨mj, n, k, as, rest, d', kc1, ks1, kc2, ks2, Q', h1, h2, h3, h4, h5, h6, h7, h8, hp _ _ h9, fun r h' hq => hp _ _ (h10 r h' hq)⟩)
  · exact Or.inr (Or.inr (Or.inl h))
  · exact Or.inr (Or.inr (Or.inr ⟨i, q, rest, d', h1, h2, h3, h4, h5, hp _ _ h6⟩))
theorem AWc.step {X : AX} {c : ACfg} {Q : AQ} (h : aStep X (AWc X) c Q) : AWc X c Q := fun P hP => hP c Q (aStep_mono (fun _ _ k => k P hP) h)
/-- a stretch without calls; ds: which way its branches go -/
def aSeg (X : AX) (stop : Nat) : Nat → Bool → List AE → List AE → List Nat → Prop → Nat → List AV → List AV → AH → Nat → Nat → Option (Prop × Nat × List AV × List AV × AH × Nat × Nat)
  | 0, _, _, _, _, C, j, ls, st, h, kc, ks => some (C, j, ls, st, h, kc, ks)
  | n + 1, first, full, rest, ds, C, j, ls, st, h, kc, ks =>
    match rest with
    | [] => none
    | e :: rest' => match !first && Nat.beq e.1 stop with
      | true => some (C, j, ls, st, h, kc, ks)
      | false => match aIsBr e.2.2.1 with
        | true => match ds with
          | [] => some (C, j, ls, st, h, kc, ks)
          | dn :: ds' => match sim X e.2.2.1 e.2.2.2.2 dn ls st h kc ks with
            | none => none
            | some (C', t, ls', st', h', kc', ks') => match t with
              | none => aSeg X stop n false full rest' ds' (match C' with | none => C | some c => C ∧ c) (e.1 + 1) ls' st' h' kc' ks'
              | some t => aSeg X stop n false full (full.drop t) ds' (match C' with | none => C | some c => C ∧ c) t ls' st' h' kc' ks'
        | false => match sim X e.2.2.1 e.2.2.2.2 0 ls st h kc ks with
          | none => some (C, j, ls, st, h, kc, ks)
          | some (C', t, ls', st', h', kc', ks') => match t with
            | none => aSeg X stop n false full rest' ds (match C' with | none => C | some c => C ∧ c) (e.1 + 1) ls' st' h' kc' ks'
            | some t => aSeg X stop n false full (full.drop t) ds (match C' with | none => C | some c => C ∧ c) t ls' st' h' kc' ks'

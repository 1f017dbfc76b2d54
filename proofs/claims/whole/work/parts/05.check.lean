/-! ===== what is checked of the code: every entry is what its bytes say, and every link is among the tables' words ===== -/
def aGw (hs : List Nat) (k : Nat) (w : Cond) : Bool := decide (lw_tbl[hs.getD k 0]? = some w) && goodWord w
def aTb : List Cond := lw_tbl.filter goodWord
theorem aGw_in {hs : List Nat} {k : Nat} {w : Cond} (h : aGw hs k w = true) : w ∈ aTb := by
  simp only [aGw, Bool.and_eq_true, decide_eq_true_eq] at h
  exact List.mem_filter.mpr ⟨List.mem_of_getElem? h.1, h.2⟩
theorem aTb_good {w : Cond} (h : w ∈ aTb) : w ∈ lw_tbl ∧ goodWord w = true := List.mem_filter.mp h
def pcAt (E : List AE) (j : Nat) : Nat := match E[j]? with
  | some e => e.2.1
  | none => 0
def okT (E : List AE) (pc : Nat) (off : Int) (t : Nat) : Bool := decide (t < E.length) && decide ((pc : Int) + off = (pcAt E t : Int))
theorem aNest_in : ∀ q ∈ aNest, Cond.methodLinkNest q.1 q.2.1 q.2.2 "CrowningSeats" ∈ lw_tbl := by decide +kernel
def okC (hs : List Nat) (own : String) (i : Nat) (mj n k : Nat) : Bool :=
  decide (mj < 156) && decide ((parseMethodDescriptor (mA mj).1.desc).map (fun d => d.parameters.length) = some n) &&
  (match k with
  | 0 => aGw hs 0 (.methodLink own i (mA mj).1) && aGw hs 1 (.instanceMethod (mA mj).1) && aGw hs 2 (.selects (mA mj).1.cls (mA mj).1 (mA mj).1)
  | 1 => aGw hs 0 (.methodLink own i (mA mj).1) && aGw hs 1 (.instanceMethod (mA mj).1) && decide ((mA mj).1.name = "<init>") && decide ((mA mj).2.2.2.1 = none)
  | 2 => aGw hs 0 (.methodLink own i (mA mj).1) && aGw hs 1 (.static (mA mj).1)
  | 4 => decide ((own, i, (mA mj).1) ∈ aNest) && aGw hs 0 (.instanceMethod (mA mj).1) && decide ((mA mj).1.name = "<init>") && decide ((mA mj).2.2.2.1 = none)
  | 5 => decide ((own, i, (mA mj).1) ∈ aNest) && aGw hs 0 (.static (mA mj).1)
  | _ => false)
def okF (hs : List Nat) (y : MethodName) (i c k : Nat) : Bool := match aCl[c]? with
  | some (_, T, N) => decide (k < N) && aGw hs 0 (.fieldLink y.cls i (T k).1 (T k).2.1 (T k).2.2.1)
  | none => false
def okP (y : MethodName) (c k f : Nat) : Bool := match aCl[c]? with
  | some (_, T, _) => match f with
    | 0 => !(T k).2.2.2
    | _ => (T k).2.2.2 && decide (y.name = "<init>") && decide ((T k).1 = y.cls)
  | none => false
def okI (hs : List Nat) (y : MethodName) (E : List AE) (pc : Nat) (ins : Instr) (aux : List Nat) : Bool :=
  match ins with
  | .bipush n => decide ((Int8.ofInt n).toInt32 = Int32.ofInt n)
  | .sipush n => decide ((Int16.ofInt n).toInt32 = Int32.ofInt n)
  | .ldc i => match aux with
    | [0, v] => aGw hs 0 (.constant y.cls i (Int32.ofInt v))
    | [1, k] => decide (y.cls = "CrowningSeats$RuleReader") && decide (aSIx[k]? = some i)
    | _ => true
  | .ldc2_w i => match aux with
    | [v] => aGw hs 0 (.constantLong y.cls i (Int64.ofInt v))
    | _ => true
  | .getfield i => match aux with
    | [c, k, _] => okF hs y i c k
    | [100, 0] => aGw hs 0 (.fieldLink y.cls i "java/lang/String" "value" "[B")
    | [100, 1] => aGw hs 0 (.fieldLink y.cls i "java/lang/String" "coder" "B")
    | _ => decide (aux = [])
  | .putfield i => match aux with
    | [c, k, f] => okF hs y i c k && okP y c k f
    | _ => true
  | .getstatic i => match aux with
    | [0] => aGw hs 0 (.fieldLink y.cls i "java/lang/String" "COMPACT_STRINGS" "Z")
    | [1] => aGw hs 0 (.fieldLink y.cls i "jdk/internal/util/Preconditions" "SIOOBE_FORMATTER" "Ljava/util/function/BiFunction;")
    | _ => true
  | .new i => match aux with
    | [c] => match aCl[c]? with
      | some (C, _, N) => aGw hs 0 (.classLink y.cls i C) && aGw hs 1 (.instantiable C N) && aGw hs 2 (.initialized C)
      | none => false
    | _ => true
  | .anewarray i => aGw hs 0 (.classLink y.cls i "CrowningSeats$Bench")
  | .goto off => match aux with
    | [t] => okT E pc off t
    | _ => true
  | .ifCond _ off => match aux with
    | [t] => okT E pc off t
    | _ => true
  | .if_icmp _ off => match aux with
    | [t] => okT E pc off t
    | _ => true
  | .ifnull off => match aux with
    | [t] => okT E pc off t
    | _ => true
  | .ifnonnull off => match aux with
    | [t] => okT E pc off t
    | _ => true
  | .tableswitch d lo hi offs => match aux with
    | t0 :: ts => okT E pc d t0 && decide (lo + ts.length = hi + 1) && decide (offs.toList.length = ts.length) && (List.range ts.length).all (fun k => okT E pc (offs.toList.getD k 0) (ts.getD k 0))
    | _ => true
  | .lookupswitch d ps => match aux with
    | [t0, t1, t2] => match ps.toList with
      | [(k1, o1), (k2, o2)] => decide (k1 < k2) && decide (-2147483648 ≤ k1) && decide (k2 < 2147483648) && okT E pc d t0 && okT E pc o1 t1 && okT E pc o2 t2
      | _ => true
    | _ => true
  | .invokevirtual i => match aux with
    | [mj, n, k] => decide (k = 0) && okC hs y.cls i mj n k
    | _ => true
  | .invokespecial i => match aux with
    | [mj, n, k] => decide (k = 1 ∨ k = 4) && okC hs y.cls i mj n k
    | [7777] => aGw hs 0 (.methodLink y.cls i Lib.objectInit)
    | _ => true
  | .invokestatic i => match aux with
    | [mj, n, k] => decide (k = 2 ∨ k = 5) && okC hs y.cls i mj n k
    | _ => true
  | _ => true
/-- does the next instruction follow -/
def okN (E : List AE) (e : AE) : Bool := match E[e.1 + 1]? with
  | some e' => decide (e'.2.1 = e.2.1 + e.2.2.2.1)
  | none => true
def okE (m : AM) (e : AE) (hs : List Nat) : Bool := decide (decode m.2.1 e.2.1 = .ok (e.2.2.1, e.2.2.2.1)) && okN m.2.2.2.2 e && okI hs m.1 m.2.2.2.2 e.2.1 e.2.2.1 e.2.2.2.2
def okL (m : AM) : List AE → List (List Nat) → Bool
  | [], _ => true
  | e :: es, hs => okE m e (hs.headD []) && okL m es (hs.drop 1)

/-! ===== the law's start: the context holds there ===== -/
def R_law : String := "CrowningSeatsLaw"
def lw_P (b : Addr) (xs : List Int32) (args : Array Value) (s : State) : Prop := args = #[.ref b] ∧ s.IntsAt b xs ∧ xs.length ≤ 3584 ∧ (Jvm.Cond.and given_1 narrow_1).before args s = true
def lw_Q (_ : Array Value) (s : State) (o : Outcome) (t : State) : Prop := o = .returned (some (.int 1)) ∧ Framed s o t [] room_1.cells room_1.slots
def lw_Z (below : List Frame) (a : Array Value) (s : State) : State → Prop := fun t => ∃ o, t.status = .running ∧ Ended t below o ∧ lw_Q a s o t
/-- the law's own end, with 1 on the stack, nothing written that was there before, its room as the claim has it -/
theorem lw_ret {p : Program} {l : Launch} {e : Env} {s : State} {m : MethodId} {below : List Frame} {meth : Method} {c : Code} {b : Nat} (hx : p.tables.exec = Jvm.exec) (hb : c.code = code) (hr : meth.sig.returnType = ret) (hlocks : meth.locks = false) {pc : Nat} {H : Heap} {ls : Array Slot} (hdg : decode code pc = .ok (.ireturn, 1)) : W p l e room_1 s m #[Value.ref b] below meth c H [] room_1.cells room_1.slots (lw_Z below #[Value.ref b] s) (F0 m pc ls [.int 1]) := by
  intro T hT X
  obtain ⟨fs, hret, hrun, hended, hW, hframe⟩ := X.leave (v := some (.int 1)) (hlocks := hlocks) (fun h => by rw [hr] at h; cases h)
  have hmeth' : T.vm.method? m = some meth := X.method'
  refine ⟨T.setFrames fs, ?_, .returned (some (.int 1)), hrun, hended, rfl, ⟨_, rfl⟩, hW, hframe⟩
  jvm_step X.here [X.here.top, hx, hb, hdg, hmeth', hr, ret, narrow_b1]
  (try refine ⟨rfl, ?_⟩); (try refine ⟨rfl, ?_⟩)
  first | (intro acts; rw [hret _ acts rfl rfl rfl]) | rw [hret _ _ rfl rfl rfl]
  exact Steps.refl _
/-- what holds at the law's entry -/
def lw_At (p : Program) (s : State) (m : MethodId) (meth : Method) (c : Code) (b L : Nat) (xs : Nat → Int32) : Prop :=
  p.tables.exec = Jvm.exec ∧ c.code = code ∧ meth.sig.returnType = ret ∧ c.maxLocals = 4 ∧ s.vm.findClass R_law = some m.cls ∧ (∀ w ∈ lw_tbl, w.before #[Value.ref b] s = true) ∧ va_X b L xs s s.heap ∧ b < s.heap.size ∧ meth.locks = false ∧ (Jvm.Cond.and given_1 narrow_1).before #[Value.ref b] s = true ∧ meth.name = "law"
def tmS (i : Nat) : Term := .string "CrowningSeats$RuleReader" (aSIx.getD i 0)
abbrev nw_F : List Cond := flatC (Jvm.Cond.and given_1 narrow_1)
theorem nw_ex : ∀ i, i < 8 → (Cond.exactly (tmS i) "java/lang/String") ∈ nw_F := by decide +kernel
theorem nw_co : ∀ i, i < 8 → (Cond.eq (.field (tmS i) "java/lang/String" "coder" "B") (.int 0)) ∈ nw_F := by decide +kernel
theorem nw_ar : ∀ i, i < 8 → (Cond.arrayOf (.field (tmS i) "java/lang/String" "value" "[B") .byte) ∈ nw_F := by decide +kernel
theorem nw_le : ∀ i, i < 8 → (Cond.eq (.length (.field (tmS i) "java/lang/String" "value" "[B")) (.int (Int32.ofNat (aLen.getD i 0)))) ∈ nw_F := by decide +kernel
theorem nw_el : ∀ i, i < 8 → ∀ j, j < aLen.getD i 0 → (Cond.eq (.elem (.field (tmS i) "java/lang/String" "value" "[B") (.int (Int32.ofNat j))) (.int ((aByt.getD i []).getD j 0))) ∈ nw_F := by decide +kernel
theorem nw_ne : ∀ i, i < 8 → ∀ j, j < 8 → i ≠ j → (Cond.not (Cond.eq (tmS i) (tmS j))) ∈ nw_F ∨ (Cond.not (Cond.eq (tmS j) (tmS i))) ∈ nw_F := by decide +kernel
theorem nw_cs : (Cond.eq (.static "java/lang/String" "COMPACT_STRINGS" "Z") (.int 1)) ∈ nw_F := by decide +kernel
theorem nw_sf : (Cond.isRef (.static "jdk/internal/util/Preconditions" "SIOOBE_FORMATTER" "Ljava/util/function/BiFunction;")) ∈ nw_F := by decide +kernel
theorem tb_sr : ∀ i, i < 8 → (Cond.stringRef "CrowningSeats$RuleReader" (aSIx.getD i 0) (aSTx.getD i "")) ∈ lw_tbl := by decide +kernel
theorem tb_ls1 : (Cond.laysStatic "java/lang/String" "COMPACT_STRINGS" "Z") ∈ lw_tbl ∧ Cond.initialized "java/lang/String" ∈ lw_tbl := by decide +kernel
theorem tb_ls2 : (Cond.laysStatic "jdk/internal/util/Preconditions" "SIOOBE_FORMATTER" "Ljava/util/function/BiFunction;") ∈ lw_tbl ∧ Cond.initialized "jdk/internal/util/Preconditions" ∈ lw_tbl := by decide +kernel
theorem tb_ao : (Cond.arrayOver (.object "CrowningSeats$Bench")) ∈ lw_tbl := by decide +kernel
theorem tb_ins : ∀ q ∈ aCl, Cond.instantiable q.1 q.2.2 ∈ lw_tbl := by decide +kernel
theorem aCl_in : ∀ q ∈ aCl, ∀ w ∈ u_ws q.1 q.2.1 q.2.2, w ∈ lw_tbl := by
  intro q hq w hw
  obtain ⟨k, hk⟩ := List.getElem?_of_mem hq
  exact (aTb_good ((okCl_all k q.1 q.2.1 q.2.2 hk).1 w hw)).1
theorem x_arrT {s : State} {args : Array Value} {ty : FieldType} (h : (Cond.arrayClass ty).before args s = true) : ∃ cA : ClassId, ArrOfT s cA ty ∧ s.vm.findClass ("[" ++ ty.toString) = some cA := by
  obtain ⟨cA, kA, comp, h1, h2, h3⟩ := Cond.arrayClass_spec h
  exact ⟨cA, fun N z => ⟨fun k h => (by cases h), kA, h2, comp, h3⟩, h1⟩
/-- THE CLAIM'S START: from the abstract run of the law -/
theorem whole_of (hA : ∀ X : AX, X.1 ≤ 3584 → (∀ i, inR (X.2 i)) → AW X 12 100000 2000000 156 0 [.inr (.inr (.inr 0)), jk, jk, jk] [] [] (fun r _ => r = some (.inl 1)))
    {p : Program} {e : Env} {s : State} {m : MethodId} {below : List Frame} {meth : Method} {c : Code} (l : Launch) {b L : Nat} {xs : Nat → Int32} (hL : L ≤ 3584) (C0 : lw_At p s m meth c b L xs) : W p l e room_1 s m #[Value.ref b] below meth c s.heap [] 0 0 (lw_Z below #[Value.ref b] s) (entryFrame m ([Value.ref b] : List Value).toArray 4) := by
  obtain ⟨hx, hb, hr, hml, hown, hts, hX, hbl, hlocks, hgv, hname⟩ := C0
  have hs := flat_of_before _ hgv
  have hAo : ∀ a : Nat, a < s.heap.size → ¬ A0 s.heap.size a := fun a h => Nat.not_le.mpr h
  -- the classes
  have hkn : ∀ k : Nat, ∃ x : ClassId × (Nat → Nat), ∀ q : vw_C, aCl[k]? = some q → u_Kn s q.1 q.2.1 q.2.2 x.1 x.2 := by
    intro k
    cases hk : aCl[k]? with
    | none => exact ⟨(0, fun _ => 0), fun q hq => by cases hq⟩
    | some q =>
      have hm := List.mem_of_getElem? hk
      obtain ⟨cC, iS, h⟩ := u_known (n := q.2.2) hts (aCl_in q hm) (hts _ (tb_ins q hm))
      exact ⟨(cC, iS), fun q' hq' => by cases hq'; exact h⟩
  let dC : Nat → ClassId := fun k => (Classical.choose (hkn k)).1
  let dI : Nat → Nat → Nat := fun k => (Classical.choose (hkn k)).2
  have hKc : ∀ (k : Nat) (q : vw_C), aCl[k]? = some q → u_Kn s q.1 q.2.1 q.2.2 (dC k) (dI k) := fun k q hq => Classical.choose_spec (hkn k) q hq
  -- the arrays' classes
  obtain ⟨c0, a0, f0⟩ := x_arrT (hts _ (aTb_good aTb_int).1)
  obtain ⟨c1, a1, f1⟩ := x_arrT (hts _ (aTb_good aTb_byte).1)
  obtain ⟨c2, a2, f2⟩ := x_arrT (hts _ (aTb_good aTb_bool).1)
  have hAO : va_AO "CrowningSeats$Bench" s := va_AO.of (hts _ tb_ao)
  obtain ⟨comp, c3, k3, g1, g2, g3, g4, g5⟩ := Cond.arrayOver_spec hAO
  let κ : Nat → ClassId := fun t => match t with
    | 0 => c0
    | 1 => c1
    | 2 => c2
    | 3 => c3
    | _ => c0
  have hK : va_K (dC, dI) aCl (aTys κ) s := by
    refine ⟨hKc, fun k q hq => ?_⟩
    match k, hq with
    | 0, hq => cases hq; exact ⟨a0, f0⟩
    | 1, hq => cases hq; exact ⟨a1, f1⟩
    | 2, hq => cases hq; exact ⟨a2, f2⟩
    | 3, hq => cases hq; exact ⟨fun N z => ⟨fun k h => (by cases h), k3, g3, comp, g4⟩, k3, comp, g3, g4, g1, g5⟩
    | k + 4, hq => simp [aTys] at hq
  -- the String constants
  obtain ⟨adK, adV, hKS, hev⟩ := vk_Sof (tm := tmS) (N := 8) (len := aLen) (byt := aByt) (A := A0 s.heap.size) (by decide) (fun i hi => hs _ (nw_ex i hi)) (fun i hi => hs _ (nw_co i hi)) (fun i hi => hs _ (nw_ar i hi)) (fun i hi => hs _ (nw_le i hi)) (fun i hi j hj => hs _ (nw_el i hi j hj)) (fun i j hi hj hij => (nw_ne i hi j hj hij).imp (fun q => hs _ q) (fun q => hs _ q)) hAo
  have hKR : ∀ i, i < 8 → vk_R "CrowningSeats$RuleReader" (aSIx.getD i 0) (aSTx.getD i "") (adK i) s := fun i hi => vk_R.of (hts _ (tb_sr i hi)) (hev i hi)
  have hZ1 : va_Z "java/lang/String" "COMPACT_STRINGS" "Z" (.int 1) (A0 s.heap.size) s s.heap := va_Zof (hts _ tb_ls1.1) (hts _ tb_ls1.2) (va_eqi (hs _ nw_cs)) hAo
  obtain ⟨v9, hv9, hZ2⟩ : ∃ v : Value, (v = .null ∨ ∃ a, v = .ref a) ∧ va_Z "jdk/internal/util/Preconditions" "SIOOBE_FORMATTER" "Ljava/util/function/BiFunction;" v (A0 s.heap.size) s s.heap := by
    rcases va_Zqof (hts _ tb_ls2.1) (hts _ tb_ls2.2) (hs _ nw_sf) hAo with h | ⟨t, h⟩
    · exact ⟨_, Or.inl rfl, h⟩
    · exact ⟨_, Or.inr ⟨t, rfl⟩, h⟩
  let ex : Nat → Value := fun j => if j = 0 then .ref b else if j ≤ 8 then .ref (adK (j - 1)) else if 100 ≤ j ∧ j < 108 then .ref (adV (j - 100)) else if j = 900 then v9 else .null
  have hex : exOk ex := by
    intro j
    show (if j = 0 then Value.ref b else if j ≤ 8 then .ref (adK (j - 1)) else if 100 ≤ j ∧ j < 108 then .ref (adV (j - 100)) else if j = 900 then v9 else .null) = .null ∨ ∃ a, (if j = 0 then Value.ref b else if j ≤ 8 then .ref (adK (j - 1)) else if 100 ≤ j ∧ j < 108 then .ref (adV (j - 100)) else if j = 900 then v9 else .null) = .ref a
    split
    · exact Or.inr ⟨_, rfl⟩
    · split
      · exact Or.inr ⟨_, rfl⟩
      · split
        · exact Or.inr ⟨_, rfl⟩
        · split
          · exact hv9
          · exact Or.inl rfl
  have hexK : ∀ i, i < 8 → ex (i + 1) = .ref (adK i) ∧ ex (i + 100) = .ref (adV i) := by
    intro i hi
    constructor
    · show (if i + 1 = 0 then Value.ref b else if i + 1 ≤ 8 then .ref (adK (i + 1 - 1)) else _) = _
      rw [if_neg (by omega), if_pos (by omega), Nat.add_sub_cancel]
    · show (if i + 100 = 0 then Value.ref b else if i + 100 ≤ 8 then .ref (adK (i + 100 - 1)) else if 100 ≤ i + 100 ∧ i + 100 < 108 then .ref (adV (i + 100 - 100)) else _) = _
      rw [if_neg (by omega), if_neg (by omega), if_pos (by omega), Nat.add_sub_cancel]
  let X : AX := (L, fun i => (xs i.toNat).toInt)
  have hXx : (fun j : Nat => Int32.ofInt (X.2 (j : Int))) = xs := by
    funext j
    show Int32.ofInt (xs ((j : Int).toNat)).toInt = xs j
    rw [Int.toNat_natCast, oI_toInt]
  have hctx : aCtx s.heap.size ex κ (dC, dI) b adK adV X s := by
    refine ⟨hK, Nat.le_refl _, hex, ⟨?_, hbl, rfl⟩, ⟨hKS, hexK, hKR⟩, hZ1, hZ2, hAO, fun q hq => va_Nw.of rfl (hts _ (aNest_in q hq)), fun t ht => ?_⟩
    · rw [hXx]; exact hX
    · match t, ht with
      | t + 4, _ => rfl
  have hat : aAt p s m #[Value.ref b] meth c 156 := by
    exact ⟨hx, hb, hml, hown, hname, hr, hlocks, fun w hw => hts w (aTb_good hw).1⟩
  have hrun := AW_sound (l := l) (bs := s.heap.size) (ex := ex) (κ := κ) (D := (dC, dI)) (b := b) (adK := adK) (adV := adV) (hA X hL (fun i => ⟨by have := (xs i.toNat).le_toInt; exact this, by have := (xs i.toNat).toInt_lt; exact this⟩))
  have hl := lR_entry (bs := s.heap.size) (ex := ex) hex (mj := 156) (as := [.inr (.inr (.inr 0))]) (by decide)
  rw [lg_entry_eq]
  have k := hrun p e room_1 s m #[Value.ref b] below meth c s.heap [] 0 0 (lw_Z below #[Value.ref b] s) _ hat hctx (by decide +kernel) (by decide +kernel) (by decide +kernel) (by decide +kernel) ⟨fun k q h => by simp [wS] at h, rfl⟩ va_S.rf hl
    (fun r h' H' locs' cells' slots' pc ls' hq hw' hS' hc' hs' hend => by
      subst hq
      refine va_forget (fun q hq => hS'.2.2 q hq) ?_
      have hk1 : cells' ≤ 100000 := by dsimp only at hc'; omega
      have hk2 : slots' ≤ 2000000 := by dsimp only at hs'; omega
      refine W.widen (k := room_1.cells) (n := room_1.slots) (Nat.le_trans hk1 (show 100000 ≤ room_1.cells by decide +kernel)) (Nat.le_trans hk2 (show 2000000 ≤ room_1.slots by decide +kernel)) ?_
      have e1 : Int32.ofInt 1 = 1 := by decide +kernel
      show W p l e room_1 s m #[Value.ref b] below meth c H' [] room_1.cells room_1.slots (lw_Z below #[Value.ref b] s) (F0 m pc ls' [.int (Int32.ofInt 1)])
      rw [e1]
      exact lw_ret hx hb hr hlocks hend.1)
  dsimp only at k
  rw [pcAt_0] at k
  exact k

/-! ===== from abstract to concrete: values, cells, heaps, locals ===== -/
def okLn (ins : Instr) (len : Nat) : Bool :=
  match ins with
  | .bipush _ => len == 2
  | .ldc _ => len == 2
  | .iload _ => len == 2
  | .aload _ => len == 2
  | .istore _ => len == 2
  | .astore _ => len == 2
  | .newarray _ => len == 2
  | .sipush _ => len == 3
  | .ldc2_w _ => len == 3
  | .iinc _ _ => len == 3
  | .getfield _ => len == 3
  | .putfield _ => len == 3
  | .getstatic _ => len == 3
  | .new _ => len == 3
  | .anewarray _ => len == 3
  | .goto _ => len == 3
  | .ifCond _ _ => len == 3
  | .if_icmp _ _ => len == 3
  | .ifnull _ => len == 3
  | .ifnonnull _ => len == 3
  | .invokevirtual _ => len == 3
  | .invokespecial _ => len == 3
  | .invokestatic _ => len == 3
  | .tableswitch _ _ _ _ => true
  | .lookupswitch _ _ => true
  | _ => len == 1
/-- an end, or a jump for good: nothing follows -/
def okLast (ins : Instr) : Bool :=
  match ins with
  | .ireturn => true
  | .areturn => true
  | .return_ => true
  | .goto _ => true
  | .athrow => true
  | .tableswitch _ _ _ _ => true
  | .lookupswitch _ _ => true
  | _ => false
def okLs (m : AM) : Bool := m.2.2.2.2.all (fun e => okLn e.2.2.1 e.2.2.2.1 && (okLast e.2.2.1 || decide (e.1 + 1 < m.2.2.2.2.length)))
set_option maxRecDepth 100000 in
theorem okLs_all : aMs.all okLs = true := by decide +kernel
theorem mA_in {mi : Nat} (h : mE mi ≠ []) : mA mi ∈ aMs := by
  have hl : mi < aMs.length := by
    rcases Nat.lt_or_ge mi aMs.length with q | q
    · exact q
    · exact absurd (by unfold mE mA; rw [List.getD_eq_getElem?_getD, List.getElem?_eq_none q]; rfl) h
  unfold mA; rw [List.getD_eq_getElem?_getD, List.getElem?_eq_getElem hl]; exact List.getElem_mem hl
theorem okLs_at {mi j : Nat} {e : AE} (h : (mE mi)[j]? = some e) : okLn e.2.2.1 e.2.2.2.1 = true ∧ (okLast e.2.2.1 = true ∨ j + 1 < (mE mi).length) := by
  have hne : mE mi ≠ [] := by intro q; rw [q] at h; cases h
  have h1 := List.all_eq_true.mp okLs_all _ (mA_in hne)
  have h2 := List.all_eq_true.mp h1 e (List.mem_of_getElem? h)
  simp only [Bool.and_eq_true, Bool.or_eq_true, decide_eq_true_eq] at h2
  rw [mE_ord h] at h2
  exact h2
theorem pcAt_eq {E : List AE} {j : Nat} {e : AE} (h : E[j]? = some e) : pcAt E j = e.2.1 := by unfold pcAt; rw [h]
/-- the next instruction's place -/
theorem pcAt_next {mi j : Nat} {e : AE} (h : (mE mi)[j]? = some e) (hl : okLast e.2.2.1 = false) : pcAt (mE mi) (j + 1) = e.2.1 + e.2.2.2.1 := by
  obtain ⟨hs, hok⟩ := okAll h
  rcases (okLs_at h).2 with q | q
  · rw [hl] at q; cases q
  · simp only [okE, Bool.and_eq_true] at hok
    have h2 := hok.1.2
    unfold okN at h2
    rw [mE_ord h] at h2
    obtain ⟨e', he'⟩ : ∃ e', (mE mi)[j + 1]? = some e' := ⟨_, List.getElem?_eq_getElem q⟩
    have he2 : (mA mi).2.2.2.2[j + 1]? = some e' := he'
    rw [he2] at h2
    simp only [decide_eq_true_eq] at h2
    rw [pcAt_eq he', h2]
theorem dec_at {mi j : Nat} {e : AE} (h : (mE mi)[j]? = some e) : decode (mA mi).2.1 e.2.1 = .ok (e.2.2.1, e.2.2.2.1) := by
  obtain ⟨hs, hok⟩ := okAll h
  simp only [okE, Bool.and_eq_true, decide_eq_true_eq] at hok
  exact hok.1.1
theorem okI_at {mi j : Nat} {e : AE} (h : (mE mi)[j]? = some e) : ∃ hs, okI hs (mA mi).1 (mE mi) e.2.1 e.2.2.1 e.2.2.2.2 = true := by
  obtain ⟨hs, hok⟩ := okAll h
  simp only [okE, Bool.and_eq_true] at hok
  exact ⟨hs, hok.2⟩
def vV (bs : Nat) (ex : Nat → Value) (v : AV) : Value := match v with
  | .inl z => .int (Int32.ofInt z)
  | .inr (.inl z) => .long (Int64.ofInt z)
  | .inr (.inr (.inl none)) => .null
  | .inr (.inr (.inl (some k))) => .ref (bs + k)
  | .inr (.inr (.inr j)) => ex j
def exOk (ex : Nat → Value) : Prop := ∀ j, ex j = .null ∨ ∃ a, ex j = .ref a
theorem vV_cat {bs : Nat} {ex : Nat → Value} (hex : exOk ex) {v : AV} (h : aIsLong v = false) : (vV bs ex v).category = 1 := by
  rcases v with z | z | (_ | k) | j
  · rfl
  · cases h
  · rfl
  · rfl
  · show (ex j).category = 1
    rcases hex j with q | ⟨a, q⟩ <;> rw [q] <;> rfl
theorem vV_catL {bs : Nat} {ex : Nat → Value} (hex : exOk ex) (v : AV) : (vV bs ex v).category = (match aIsLong v with | true => 2 | false => 1) := by
  cases h : aIsLong v with
  | false => exact vV_cat hex h
  | true =>
    rcases v with z | z | (_ | k) | j
    · cases h
    · rfl
    · cases h
    · cases h
    · cases h
theorem aWt_eq {bs : Nat} {ex : Nat → Value} (hex : exOk ex) (st : List AV) : ((st.map (vV bs ex)).map fun v => v.category).sum = aWt st := by
  unfold aWt
  rw [List.map_map]
  congr 1
  refine List.map_congr_left (fun v _ => ?_)
  exact vV_catL hex v
/-! locals -/
def lR (bs : Nat) (ex : Nat → Value) (nL : Nat) (als : List AV) (ls : Array Slot) : Prop :=
  als.length = nL ∧ ls.size = nL ∧ lv_wf ls ∧ ∀ (i : Nat) (v : AV), als[i]? = some v → v ≠ jk → ls[i]? = some (.val (vV bs ex v))
def lvOf (bs : Nat) (ex : Nat → Value) (als : List AV) : List (Nat × Value) :=
  (List.range als.length).filterMap (fun k => match als[k]? with
    | some v => if v = jk then none else some (k, vV bs ex v)
    | none => none)
theorem lvOf_mem {bs : Nat} {ex : Nat → Value} {als : List AV} {q : Nat × Value} : q ∈ lvOf bs ex als ↔ ∃ v, als[q.1]? = some v ∧ v ≠ jk ∧ q.2 = vV bs ex v := by
  unfold lvOf
  rw [List.mem_filterMap]
  constructor
  · rintro ⟨k, -, hk⟩
    cases ha : als[k]? with
    | none => rw [ha] at hk; cases hk
    | some v =>
      rw [ha] at hk
      dsimp only at hk
      split at hk
      · cases hk
      · cases hk
        exact ⟨v, ha, by assumption, rfl⟩
  · rintro ⟨v, h1, h2, h3⟩
    refine ⟨q.1, List.mem_range.mpr (List.getElem?_eq_some_iff.mp h1).1, ?_⟩
    rw [h1]
    dsimp only
    rw [if_neg h2, ← h3]
theorem lR.has {bs : Nat} {ex : Nat → Value} {nL : Nat} {als : List AV} {ls : Array Slot} (h : lR bs ex nL als ls) : lv_has ls nL (lvOf bs ex als) :=
  ⟨h.2.1, h.2.2.1, fun q hq => by
    obtain ⟨v, h1, h2, h3⟩ := lvOf_mem.mp hq
    rw [h3]
    exact h.2.2.2 q.1 v h1 h2⟩
theorem lR.store {bs : Nat} {ex : Nat → Value} (hex : exOk ex) {nL i : Nat} {als : List AV} {ls ls' : Array Slot} {v : AV} (h : lR bs ex nL als ls) (hs : aStok als i = true)
    (h' : lv_has ls' nL ((i, vV bs ex v) :: (lvOf bs ex als).filter (fun q => !(q.1 == i) && !(q.1 + 1 == i && q.2.category == 2)))) : lR bs ex nL (als.set i v) ls' := by
  refine ⟨by rw [List.length_set]; exact h.1, h'.1, h'.2.1, fun k w hk hw => ?_⟩
  simp only [aStok, Bool.and_eq_true, Nat.blt_eq] at hs
  by_cases e : k = i
  · subst e
    rw [List.getElem?_set_self hs.1] at hk
    cases hk
    exact h'.2.2 _ List.mem_cons_self
  · rw [List.getElem?_set_ne (Ne.symm e)] at hk
    refine h'.2.2 (k, vV bs ex w) (List.mem_cons_of_mem _ (List.mem_filter.mpr ⟨lvOf_mem.mpr ⟨w, hk, hw, rfl⟩, ?_⟩))
    simp only [Bool.and_eq_true, Bool.not_eq_true', beq_eq_false_iff_ne, ne_eq, Bool.and_eq_false_iff]
    refine ⟨e, ?_⟩
    by_cases e2 : k + 1 = i
    · right
      subst e2
      have h2 := hs.2
      dsimp only at h2
      rw [hk] at h2
      dsimp only at h2
      rw [vV_cat hex (by simpa using h2)]
      decide
    · exact Or.inl e2
theorem aStok_lt {als : List AV} {i : Nat} (hs : aStok als i = true) : i < als.length := by
  simp only [aStok, Bool.and_eq_true, Nat.blt_eq] at hs
  exact hs.1
/-! cells and heaps -/
def cC (bs : Nat) (ex : Nat → Value) (κ : Nat → ClassId) (c : AC) : va_E := match c with
  | .inl (t, n, f) => .inl (κ t, n, .inl (fun j : Nat => Int32.ofInt (f (j : Int))))
  | .inr (.inl (n, f)) => .inl (κ 3, n, .inr (.inr (.inr (.inr (fun j : Nat => (f (j : Int)).map (fun k => bs + k))))))
  | .inr (.inr (c, fs)) => .inr (c, fs.map (vV bs ex))
def wS (bs : Nat) (ex : Nat → Value) (κ : Nat → ClassId) (h : AH) : va_W := h.mapIdx (fun k c => (bs + k, cC bs ex κ c))
def A0 (bs : Nat) : Nat → Prop := fun q => bs ≤ q
theorem wS_get {bs : Nat} {ex : Nat → Value} {κ : Nat → ClassId} {h : AH} {k : Nat} {c : AC} (hk : h[k]? = some c) : (wS bs ex κ h)[k]? = some (bs + k, cC bs ex κ c) := by
  unfold wS; rw [List.getElem?_mapIdx, hk]; rfl
theorem wS_get' {bs : Nat} {ex : Nat → Value} {κ : Nat → ClassId} {h : AH} {k : Nat} {q : Nat × va_E} (hk : (wS bs ex κ h)[k]? = some q) : ∃ c, h[k]? = some c ∧ q = (bs + k, cC bs ex κ c) := by
  unfold wS at hk; rw [List.getElem?_mapIdx] at hk
  cases hc : h[k]? with
  | none => rw [hc] at hk; cases hk
  | some c => rw [hc] at hk; cases hk; exact ⟨c, rfl, rfl⟩
theorem wS_D (bs : Nat) (ex : Nat → Value) (κ : Nat → ClassId) (h : AH) : va_D (A0 bs) (wS bs ex κ h) := by
  refine ⟨fun i j p q hi hj hpq => ?_, fun k q hk => ?_⟩
  · obtain ⟨c, -, rfl⟩ := wS_get' hi
    obtain ⟨c', -, rfl⟩ := wS_get' hj
    dsimp only at hpq
    omega
  · obtain ⟨c, -, rfl⟩ := wS_get' hk
    exact Nat.le_add_right bs k
theorem wS_set (bs : Nat) (ex : Nat → Value) (κ : Nat → ClassId) (h : AH) (k : Nat) (c : AC) : (wS bs ex κ h).set k (bs + k, cC bs ex κ c) = wS bs ex κ (h.set k c) := by
  refine List.ext_getElem? (fun i => ?_)
  unfold wS
  rw [List.getElem?_mapIdx, List.getElem?_set, List.getElem?_set, List.length_mapIdx]
  by_cases e : k = i
  · subst e
    rw [if_pos rfl, if_pos rfl]
    split <;> rfl
  · rw [if_neg e, if_neg e, List.getElem?_mapIdx]
theorem wS_push (bs : Nat) (ex : Nat → Value) (κ : Nat → ClassId) (h : AH) (c : AC) : wS bs ex κ h ++ [(bs + h.length, cC bs ex κ c)] = wS bs ex κ (h ++ [c]) := by
  unfold wS; rw [List.mapIdx_append]; simp
def aTys (κ : Nat → ClassId) : List (ClassId × FieldType) := [(κ 0, .int), (κ 1, .byte), (κ 2, .boolean), (κ 3, .object "CrowningSeats$Bench")]
def Wd (bs : Nat) (ex : Nat → Value) (κ : Nat → ClassId) (D : va_G) (h : AH) (H : Heap) : Prop := va_P D aCl (wS bs ex κ h) H ∧ H.size = bs + h.length
/-! numbers -/
theorem oI_add (a b : Int) : Int32.ofInt a + Int32.ofInt b = Int32.ofInt (a + b) := (Int32.ofInt_add a b).symm
theorem oI_sub (a b : Int) : Int32.ofInt a - Int32.ofInt b = Int32.ofInt (a - b) := (Int32.ofInt_sub a b).symm
theorem oI_mul (a b : Int) : Int32.ofInt a * Int32.ofInt b = Int32.ofInt (a * b) := (Int32.ofInt_mul a b).symm
theorem oI_neg (a : Int) : - Int32.ofInt a = Int32.ofInt (-a) := (Int32.ofInt_neg a).symm
theorem oI_toInt (x : Int32) : Int32.ofInt x.toInt = x := Int32.ofInt_toInt x
theorem oI_in {z : Int} (h : inR z) : (Int32.ofInt z).toInt = z := by
  rw [Int32.toInt_ofInt]
  obtain ⟨h1, h2⟩ := h
  show z.bmod (2 ^ 32) = z
  rw [Int.bmod_eq_of_le] <;> omega
theorem oI_lt {a b : Int} (ha : inR a) (hb : inR b) : Int32.ofInt a < Int32.ofInt b ↔ a < b := by rw [Int32.lt_iff_toInt_lt, oI_in ha, oI_in hb]
theorem oI_le {a b : Int} (ha : inR a) (hb : inR b) : Int32.ofInt a ≤ Int32.ofInt b ↔ a ≤ b := by rw [Int32.le_iff_toInt_le, oI_in ha, oI_in hb]
theorem oI_eq {a b : Int} (ha : inR a) (hb : inR b) : Int32.ofInt a = Int32.ofInt b ↔ a = b := by
  constructor
  · intro h
    have := congrArg Int32.toInt h
    rwa [oI_in ha, oI_in hb] at this
  · intro h; rw [h]
theorem inR_0 : inR 0 := ⟨by decide, by decide⟩
theorem oI_0 : Int32.ofInt 0 = 0 := by decide +kernel
theorem oI_ix {i : Int} {n : Nat} (h : aInB i n) : vp_in (Int32.ofInt i) n ∧ (Int32.ofInt i).toNatClampNeg = i.toNat ∧ ((i.toNat : Nat) : Int) = i := by
  obtain ⟨h1, h2, h3⟩ := h
  have hr : inR i := ⟨by omega, by omega⟩
  refine ⟨vp_in_iff.mpr (by rw [oI_in hr]; exact ⟨h1, h2⟩), ?_, Int.toNat_of_nonneg h1⟩
  show (Int32.ofInt i).toInt.toNat = i.toNat
  rw [oI_in hr]

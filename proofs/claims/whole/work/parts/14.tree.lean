/-! ===== a stretch with all its branches: its weakest precondition by evaluation ===== -/
def aImp (a p : Prop) : Prop := a → p
theorem aImp_i {a p : Prop} (h : a → p) : aImp a p := h
noncomputable def bI (p : Prop) : Int := @ite Int p (Classical.propDecidable p) 1 0
theorem bI_t {p : Prop} (h : p) : bI p = 1 := by unfold bI; exact if_pos h
theorem bI_f {p : Prop} (h : ¬ p) : bI p = 0 := by unfold bI; exact if_neg h
theorem bI_01 (p : Prop) : bI p = 0 ∨ bI p = 1 := by
  rcases Classical.em p with h | h
  · exact Or.inr (bI_t h)
  · exact Or.inl (bI_f h)
theorem bI_r (p : Prop) : 0 ≤ bI p ∧ bI p ≤ 1 := by rcases bI_01 p with h | h <;> rw [h] <;> decide
theorem inR_bI (p : Prop) : inR (bI p) := by have := bI_r p; unfold inR; omega
theorem bI_e0 {p : Prop} (h : bI p = 0) : ¬ p := fun hp => by rw [bI_t hp] at h; cases h
theorem bI_n0 {p : Prop} (h : ¬ bI p = 0) : p := by
  rcases Classical.em p with hp | hp
  · exact hp
  · exact absurd (bI_f hp) h
theorem bI_congr {p q : Prop} (h : p ↔ q) : bI p = bI q := by rw [propext h]
theorem aImp_e0 {p q : Prop} (h : ¬ p → q) : aImp (bI p = 0) q := fun k => h (bI_e0 k)
theorem aImp_n0 {p q : Prop} (h : p → q) : aImp (¬ bI p = 0) q := fun k => h (bI_n0 k)
def fL : List AV → (List AV → Option Prop) → Option Prop
  | [], k => k []
  | v :: t, k => fL t (fun t' => k (v :: t'))
theorem fL_eq : ∀ (l : List AV) (k : List AV → Option Prop), fL l k = k l := by
  intro l
  induction l with
  | nil => intro k; rfl
  | cons v t ih => intro k; exact ih _
def fC (c : AC) (k : AC → Option Prop) : Option Prop :=
  match c with
  | .inl (t, n, f) => k (.inl (t, n, f))
  | .inr (.inl (n, f)) => k (.inr (.inl (n, f)))
  | .inr (.inr (c, fs)) => fL fs (fun fs' => k (.inr (.inr (c, fs'))))
theorem fC_eq (c : AC) (k : AC → Option Prop) : fC c k = k c := by
  rcases c with ⟨t, n, f⟩ | ⟨n, f⟩ | ⟨c, fs⟩
  · rfl
  · rfl
  · exact fL_eq fs _
def fH (g : AH → (AH → Option Prop) → Option Prop) : Nat → AH → (AH → Option Prop) → Option Prop
  | 0, h, k => g h k
  | n + 1, h, k => match h with
    | [] => k []
    | c :: t => fC c (fun c' => fH g n t (fun t' => k (c' :: t')))
def fO (g : AH → (AH → Option Prop) → Option Prop) : Nat → AH → (AH → Option Prop) → Option Prop
  | 0, h, k => g h k
  | n + 1, h, k => match h with
    | [] => k []
    | c :: t => fO g n t (fun t' => k (c :: t'))
theorem fH_eq {g : AH → (AH → Option Prop) → Option Prop} (hg : ∀ h k, g h k = k h) : ∀ (n : Nat) (h : AH) (k : AH → Option Prop), fH g n h k = k h := by
  intro n
  induction n with
  | zero => intro h k; exact hg h k
  | succ n ih =>
    intro h k
    cases h with
    | nil => rfl
    | cons c t =>
      have e : fH g (n + 1) (c :: t) k = fC c (fun c' => fH g n t (fun t' => k (c' :: t'))) := rfl
      rw [e, fC_eq, ih]
theorem fO_eq {g : AH → (AH → Option Prop) → Option Prop} (hg : ∀ h k, g h k = k h) : ∀ (n : Nat) (h : AH) (k : AH → Option Prop), fO g n h k = k h := by
  intro n
  induction n with
  | zero => intro h k; exact hg h k
  | succ n ih =>
    intro h k
    cases h with
    | nil => rfl
    | cons c t =>
      have e : fO g (n + 1) (c :: t) k = fO g n t (fun t' => k (c :: t')) := rfl
      rw [e, ih]
/-- which cells are laid bare: (true, n) n cells with their fields, (false, n) n cells as they are -/
def fG : List (Bool × Nat) → AH → (AH → Option Prop) → Option Prop
  | [], h, k => k h
  | (b, n) :: s, h, k => match b with
    | true => fH (fG s) n h k
    | false => fO (fG s) n h k
theorem fG_eq : ∀ (s : List (Bool × Nat)) (h : AH) (k : AH → Option Prop), fG s h k = k h := by
  intro s
  induction s with
  | nil => intro h k; rfl
  | cons q s ih =>
    intro h k
    obtain ⟨b, n⟩ := q
    cases b
    · exact fO_eq ih n h k
    · exact fH_eq ih n h k
/-- the classes of the methods (13 String, 99 none) -/
def aMcl : List Nat := (List.range 157).map (fun k => match Nat.blt k 1 with
  | true => 99
  | false => match Nat.blt k 3 with
    | true => 0
    | false => match Nat.blt k 8 with
      | true => 1
      | false => match Nat.blt k 15 with
        | true => 2
        | false => match Nat.blt k 18 with
          | true => 3
          | false => match Nat.blt k 23 with
            | true => 4
            | false => match Nat.blt k 39 with
              | true => 5
              | false => match Nat.blt k 46 with
                | true => 6
                | false => match Nat.blt k 58 with
                  | true => 7
                  | false => match Nat.blt k 67 with
                    | true => 8
                    | false => match Nat.blt k 74 with
                      | true => 99
                      | false => match Nat.blt k 77 with
                        | true => 10
                        | false => match Nat.blt k 101 with
                          | true => 11
                          | false => match Nat.blt k 145 with
                            | true => 12
                            | false => match Nat.blt k 148 with
                              | true => 99
                              | false => match Nat.blt k 153 with
                                | true => 13
                                | false => 99)
set_option maxRecDepth 100000 in
theorem aMcl_ok : (List.range 157).all (fun k => match Nat.blt (aMcl.getD k 99) 13 with
  | true => (aCl.getD (aMcl.getD k 99) ("", TX0, 0)).1 == (mA k).1.cls
  | false => !(Nat.beq (aMcl.getD k 99) 13) || (mA k).1.cls == "java/lang/String") = true := by decide +kernel
def aRecvB (k : Nat) (mj : Nat) (h : AH) (as : List AV) : Bool :=
  match k with
  | 0 => match as with
    | .inr (.inr (.inl (some q))) :: _ => match h[q]? with
      | some (.inr (.inr (c, _))) => Nat.blt mj 157 && Nat.blt c 13 && Nat.beq (aMcl.getD mj 99) c
      | _ => false
    | .inr (.inr (.inr j)) :: _ => Nat.ble 1 j && Nat.ble j 8 && Nat.blt mj 157 && Nat.beq (aMcl.getD mj 99) 13
    | _ => false
  | 1 => match as with
    | .inr (.inr (.inl (some _))) :: _ => true
    | _ => false
  | 4 => match as with
    | .inr (.inr (.inl (some _))) :: _ => true
    | _ => false
  | _ => true
theorem aRecvB_ok {k mj : Nat} {h : AH} {as : List AV} (hb : aRecvB k mj h as = true) : aRecv k mj h as := by
  unfold aRecvB at hb
  unfold aRecv
  split at hb
  · split at hb
    · split at hb
      · next q _ _ c fs he =>
        simp only [Bool.and_eq_true] at hb
        obtain ⟨⟨h1, h2⟩, h3⟩ := hb
        have h1' : mj < 157 := Nat.blt_eq.mp h1
        have h3' : aMcl.getD mj 99 = c := Nat.eq_of_beq_eq_true h3
        have := List.all_eq_true.mp aMcl_ok mj (List.mem_range.mpr h1')
        rw [h3', h2] at this
        exact ⟨c, fs, he, beq_iff_eq.mp this⟩
      · cases hb
    · next j _ =>
      simp only [Bool.and_eq_true] at hb
      obtain ⟨⟨⟨h1, h2⟩, h3⟩, h4⟩ := hb
      have h3' : mj < 157 := Nat.blt_eq.mp h3
      have h4' : aMcl.getD mj 99 = 13 := Nat.eq_of_beq_eq_true h4
      have := List.all_eq_true.mp aMcl_ok mj (List.mem_range.mpr h3')
      rw [h4'] at this
      refine ⟨Nat.le_of_ble_eq_true h1, Nat.le_of_ble_eq_true h2, ?_⟩
      have t2 : ((mA mj).1.cls == "java/lang/String") = true := this
      exact beq_iff_eq.mp t2
    · cases hb
  · split at hb
    · trivial
    · cases hb
  · split at hb
    · trivial
    · cases hb
  · split <;> first | trivial | (rename_i h1 h2 h3 _; exact absurd rfl (by first | exact h1 | exact h2 | exact h3))
/-- a call at a place: the method, what it takes, what stays -/
def aCallB (mi j : Nat) (st : List AV) (h : AH) : Option (Nat × List AV × List AV) :=
  match (mE mi)[j]? with
  | none => none
  | some e => match aCall e.2.2.1 e.2.2.2.2 with
    | none => none
    | some (mj, n, k) => match Nat.ble (aNargs k n) st.length && aRecvB k mj h (st.take (aNargs k n)).reverse && Nat.ble (aWt (st.drop (aNargs k n))) 8 && Nat.ble (aArgs (st.take (aNargs k n)).reverse).length (mA mj).2.2.1 with
      | true => some (mj, (st.take (aNargs k n)).reverse, st.drop (aNargs k n))
      | false => none
/-- what a method does: its answer, the heap behind it -/
def AF (X : AX) (d kc ks mj : Nat) (as : List AV) (h : AH) (r : Option AV) (h' : AH) : Prop := AW X d kc ks mj 0 (aEntry mj as) [] h (fun r' h'' => r' = r ∧ h'' = h')
theorem aw_cq {X : AX} {mi j d kc1 ks1 kc2 ks2 kc ks : Nat} {ls st : List AV} {h : AH} {Q Q' : AQ} {mj : Nat} {as rest : List AV}
    (hM : AW X d kc1 ks1 mj 0 (aEntry mj as) [] h Q') (hc : aCallB mi j st h = some (mj, as, rest)) (hkc : kc1 + kc2 = kc) (hks : ks1 + ks2 = ks) (kk : ∀ r h', Q' r h' → AW X (d + 1) kc2 ks2 mi (j + 1) ls (r.toList ++ rest) h' Q) : AW X (d + 1) kc ks mi j ls st h Q := by
  unfold aCallB at hc
  cases he : (mE mi)[j]? with
  | none => rw [he] at hc; cases hc
  | some e =>
    rw [he] at hc
    dsimp only at hc
    cases hca : aCall e.2.2.1 e.2.2.2.2 with
    | none => rw [hca] at hc; cases hc
    | some x =>
      obtain ⟨mj', n, k'⟩ := x
      rw [hca] at hc
      dsimp only at hc
      cases hb : (Nat.ble (aNargs k' n) st.length && aRecvB k' mj' h (st.take (aNargs k' n)).reverse && Nat.ble (aWt (st.drop (aNargs k' n))) 8 && Nat.ble (aArgs (st.take (aNargs k' n)).reverse).length (mA mj').2.2.1) with
      | false => rw [hb] at hc; cases hc
      | true =>
        rw [hb] at hc
        simp only [Option.some.injEq, Prod.mk.injEq] at hc
        obtain ⟨rfl, rfl, rfl⟩ := hc
        simp only [Bool.and_eq_true] at hb
        obtain ⟨⟨⟨b1, b2⟩, b3⟩, b4⟩ := hb
        have hlen := Nat.le_of_ble_eq_true b1
        exact AWc.step ⟨e, he, Or.inr (Or.inl ⟨mj', n, k', _, _, d, kc1, ks1, kc2, ks2, Q', hca, by rw [List.reverse_reverse, List.take_append_drop], by rw [List.length_reverse, List.length_take]; omega, ⟨Nat.le_of_ble_eq_true b3, Nat.le_of_ble_eq_true b4⟩, rfl, hkc.symm, hks.symm, aRecvB_ok b2, hM, kk⟩)⟩
theorem aw_cf {X : AX} {mi j d kc1 ks1 kc2 ks2 kc ks : Nat} {ls st : List AV} {h h' : AH} {Q : AQ} {mj : Nat} {as rest : List AV} {r : Option AV}
    (hM : AF X d kc1 ks1 mj as h r h') (hc : aCallB mi j st h = some (mj, as, rest)) (hkc : kc1 + kc2 = kc) (hks : ks1 + ks2 = ks) (kk : AW X (d + 1) kc2 ks2 mi (j + 1) ls (r.toList ++ rest) h' Q) : AW X (d + 1) kc ks mi j ls st h Q :=
  aw_cq hM hc hkc hks (fun r' h'' e => by obtain ⟨rfl, rfl⟩ := e; exact kk)
/-- methods known by what they answer -/
abbrev AI : Type := Nat → AH → List AV → Option (Prop × Option AV × AH)
def AIok (X : AX) (k : Nat) (I : AI) : Prop := ∀ mj h as C r h', I mj h as = some (C, r, h') → C → ∀ d, AF X (d + k) 0 0 mj as h r h'
def aTabs (f : Nat → Option Prop) (x : Int) : Int → List Nat → Option Prop → Option Prop
  | _, [], o => o
  | lo, t :: ts, o => match f t with
    | some P => match aTabs f x (lo + 1) ts o with
      | some R => some (aImp (x = lo) P ∧ R)
      | none => none
    | none => none
def aRetP (ins : Instr) (ret : Option FieldType) (st : List AV) (h : AH) (Q : AQ) : Option Prop :=
  match ins with
  | .ireturn => match st with
    | [.inl z] => match ret with
      | some .int => some (Q (some (.inl z)) h)
      | some .boolean => some ((z = 0 ∨ z = 1) ∧ Q (some (.inl z)) h)
      | some .byte => some ((-128 ≤ z ∧ z < 128) ∧ Q (some (.inl z)) h)
      | some .char => some ((0 ≤ z ∧ z < 65536) ∧ Q (some (.inl z)) h)
      | _ => none
    | _ => none
  | .areturn => match st with
    | [.inr (.inr (.inl r))] => match ret with
      | some (.object _) => some (Q (some (.inr (.inr (.inl r)))) h)
      | _ => none
    | _ => none
  | .return_ => match st with
    | [] => match ret with
      | none => some (Q none h)
      | _ => none
    | _ => none
  | _ => none
def aAnd (C : Option Prop) (o : Option Prop) : Option Prop :=
  match o with
  | none => none
  | some P => match C with
    | none => some P
    | some c => some (c ∧ P)
def aIf2 (c : ClassFile.Cond) (x y : Int) (C : Prop) (o0 o1 : Option Prop) : Option Prop :=
  match o0 with
  | none => none
  | some P0 => match o1 with
    | none => none
    | some P1 => match c with
      | .eq => some (C ∧ aImp (x = y) P1 ∧ aImp (¬ x = y) P0)
      | .ne => some (C ∧ aImp (¬ x = y) P1 ∧ aImp (x = y) P0)
      | .lt => some (C ∧ aImp (x < y) P1 ∧ aImp (y ≤ x) P0)
      | .ge => some (C ∧ aImp (y ≤ x) P1 ∧ aImp (x < y) P0)
      | .gt => some (C ∧ aImp (y < x) P1 ∧ aImp (x ≤ y) P0)
      | .le => some (C ∧ aImp (x ≤ y) P1 ∧ aImp (y < x) P0)
/-- sim, with its sums written plainly -/
def simP (X : AX) (ins : Instr) (aux : List Nat) (dn : Nat) (ls st : List AV) (h : AH) (kc ks : Nat) : AR :=
  match ins with
  | .iadd => match st with
    | .inl b :: .inl a :: r => some (none, none, ls, .inl (a + b) :: r, h, kc, ks)
    | _ => none
  | .isub => match st with
    | .inl b :: .inl a :: r => some (none, none, ls, .inl (a - b) :: r, h, kc, ks)
    | _ => none
  | .imul => match st with
    | .inl b :: .inl a :: r => some (none, none, ls, .inl (a * b) :: r, h, kc, ks)
    | _ => none
  | .ineg => match st with
    | .inl a :: r => some (none, none, ls, .inl (-a) :: r, h, kc, ks)
    | _ => none
  | i => sim X i aux dn ls st h kc ks
theorem simP_eq (X : AX) (ins : Instr) (aux : List Nat) (dn : Nat) (ls st : List AV) (h : AH) (kc ks : Nat) : simP X ins aux dn ls st h kc ks = sim X ins aux dn ls st h kc ks := by
  unfold simP
  split <;> rfl
abbrev AK : Type := Nat → List AV → List AV → AH → Nat → Nat → Prop
def aTree (X : AX) (I : AI) (K : AK) (Q : AQ) (nf : List (Bool × Nat)) (stops : List Nat) (m : AM) : Nat → Bool → List AE → Nat → List AV → List AV → AH → Nat → Nat → Option Prop
  | 0, _, _, j, ls, st, h, kc, ks => some (K j ls st h kc ks)
  | n + 1, first, rest, j, ls, st, h, kc, ks =>
    match rest with
    | [] => none
    | e :: rest' => match !first && stops.any (fun s => Nat.beq e.1 s) with
      | true => fL ls (fun ls => fL st (fun st => fG nf h (fun h => some (K j ls st h kc ks))))
      | false => match aIsBr e.2.2.1 with
        | true => match e.2.2.1 with
          | .ifCond c _ => match st with
            | .inl x :: r => match e.2.2.2.2 with
              | [t] => aIf2 c x 0 (inR x) (aTree X I K Q nf stops m n false rest' (j + 1) ls r h kc ks) (aTree X I K Q nf stops m n false (m.2.2.2.2.drop t) t ls r h kc ks)
              | _ => none
            | _ => none
          | .if_icmp c _ => match st with
            | .inl y :: .inl x :: r => match e.2.2.2.2 with
              | [t] => aIf2 c x y (inR x ∧ inR y) (aTree X I K Q nf stops m n false rest' (j + 1) ls r h kc ks) (aTree X I K Q nf stops m n false (m.2.2.2.2.drop t) t ls r h kc ks)
              | _ => none
            | _ => none
          | .tableswitch _ lo hi _ => match st with
            | .inl x :: r => match e.2.2.2.2 with
              | t0 :: ts => match Nat.beq ts.length (hi - lo + 1).toNat with
                | true => match aTree X I K Q nf stops m n false (m.2.2.2.2.drop t0) t0 ls r h kc ks with
                  | some Pd => aAnd (some (inR x)) (aTabs (fun t => aTree X I K Q nf stops m n false (m.2.2.2.2.drop t) t ls r h kc ks) x lo ts (some (aImp (x < lo ∨ hi < x) Pd)))
                  | none => none
                | false => none
              | _ => none
            | _ => none
          | .lookupswitch _ ps => match st with
            | .inl x :: r => match e.2.2.2.2 with
              | [t0, t1, t2] => match ps.toList with
                | [(k1, _), (k2, _)] => match aTree X I K Q nf stops m n false (m.2.2.2.2.drop t0) t0 ls r h kc ks with
                  | some P0 => match aTree X I K Q nf stops m n false (m.2.2.2.2.drop t1) t1 ls r h kc ks with
                    | some P1 => match aTree X I K Q nf stops m n false (m.2.2.2.2.drop t2) t2 ls r h kc ks with
                      | some P2 => some (inR x ∧ aImp (x = k1) P1 ∧ aImp (x = k2) P2 ∧ aImp (x ≠ k1 ∧ x ≠ k2) P0)
                      | none => none
                    | none => none
                  | none => none
                | _ => none
              | _ => none
            | _ => none
          | _ => none
        | false => match simP X e.2.2.1 e.2.2.2.2 0 ls st h kc ks with
          | some (C', t, ls', st', h', kc', ks') => match t with
            | none => aAnd C' (aTree X I K Q nf stops m n false rest' (j + 1) ls' st' h' kc' ks')
            | some t => aAnd C' (aTree X I K Q nf stops m n false (m.2.2.2.2.drop t) t ls' st' h' kc' ks')
          | none => match aCall e.2.2.1 e.2.2.2.2 with
            | some (mj, na, k) => match Nat.ble (aNargs k na) st.length && aRecvB k mj h (st.take (aNargs k na)).reverse && Nat.ble (aWt (st.drop (aNargs k na))) 8 && Nat.ble (aArgs (st.take (aNargs k na)).reverse).length (mA mj).2.2.1 with
              | true => match I mj h (st.take (aNargs k na)).reverse with
                | some (C, r, h') => match r with
                  | some v => aAnd (some C) (aTree X I K Q nf stops m n false rest' (j + 1) ls (v :: st.drop (aNargs k na)) h' kc ks)
                  | none => aAnd (some C) (aTree X I K Q nf stops m n false rest' (j + 1) ls (st.drop (aNargs k na)) h' kc ks)
                | none => fL ls (fun ls => fL st (fun st => fG nf h (fun h => some (K j ls st h kc ks))))
              | false => none
            | none => fL ls (fun ls => fL st (fun st => fG nf h (fun h => match aRetP e.2.2.1 m.2.2.2.1 st h Q with
              | some P => some P
              | none => some (K j ls st h kc ks))))

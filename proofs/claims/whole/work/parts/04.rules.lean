/-! ===== the machine's rules ===== -/
def aOrd (l : List AE) : Bool := (l.map (fun e => e.1)) == List.range l.length
set_option maxRecDepth 100000 in
theorem aOrd_all : aMs.all (fun m => aOrd m.2.2.2.2) = true := by decide +kernel
theorem mE_ord {mi j : Nat} {e : AE} (h : (mE mi)[j]? = some e) : e.1 = j := by
  have hl : mi < aMs.length := by
    rcases Nat.lt_or_ge mi aMs.length with q | q
    · exact q
    · exfalso
      have : mE mi = [] := by unfold mE mA; rw [List.getD_eq_getElem?_getD, List.getElem?_eq_none q]; rfl
      rw [this] at h; cases h
  have hm : mA mi ∈ aMs := by unfold mA; rw [List.getD_eq_getElem?_getD, List.getElem?_eq_getElem hl]; exact List.getElem_mem hl
  have h1 := List.all_eq_true.mp aOrd_all _ hm
  have h2 : ((mE mi).map (fun e => e.1)) = List.range (mE mi).length := by
    have := beq_iff_eq.mp h1
    exact this
  have hj : j < (mE mi).length := (List.getElem?_eq_some_iff.mp h).1
  have h3 : ((mE mi).map (fun e => e.1))[j]? = some e.1 := by rw [List.getElem?_map, h]; rfl
  rw [h2, List.getElem?_range hj] at h3
  exact (Option.some.inj h3).symm
theorem aHolds_and {C : Prop} {C' : Option Prop} (h : (match C' with | none => C | some c => C ∧ c)) : C ∧ aHolds C' := by
  cases C' with
  | none => exact ⟨h, trivial⟩
  | some c => exact h
theorem aSeg_sound {X : AX} {stop mi d : Nat} {Q : AQ} : ∀ (n : Nat) (first : Bool) (ds : List Nat) (C : Prop) (j : Nat) (ls st : List AV) (h : AH) (kc ks : Nat) {C1 : Prop} {j1 : Nat} {ls1 st1 : List AV} {h1 : AH} {kc1 ks1 : Nat},
    aSeg X stop n first (mE mi) ((mE mi).drop j) ds C j ls st h kc ks = some (C1, j1, ls1, st1, h1, kc1, ks1) → C1 → C ∧ (AW X d kc1 ks1 mi j1 ls1 st1 h1 Q → AW X d kc ks mi j ls st h Q) := by
  intro n
  induction n with
  | zero =>
    intro first ds C j ls st h kc ks C1 j1 ls1 st1 h1 kc1 ks1 hs hC
    simp only [aSeg, Option.some.injEq, Prod.mk.injEq] at hs
    obtain ⟨rfl, rfl, rfl, rfl, rfl, rfl, rfl⟩ := hs
    exact ⟨hC, fun k => k⟩
  | succ n ih =>
    intro first ds C j ls st h kc ks C1 j1 ls1 st1 h1 kc1 ks1 hs hC
    rw [aSeg.eq_def] at hs
    dsimp only at hs
    cases hr : (mE mi).drop j with
    | nil => rw [hr] at hs; cases hs
    | cons e rest' =>
      rw [hr] at hs
      have he : (mE mi)[j]? = some e := by
        have : ((mE mi).drop j)[0]? = some e := by rw [hr]; rfl
        rw [List.getElem?_drop] at this
        exact this
      have hrest : rest' = (mE mi).drop (j + 1) := by
        have : ((mE mi).drop j).drop 1 = rest' := by rw [hr]; rfl
        rw [List.drop_drop] at this
        exact this.symm
      have ho : e.1 = j := mE_ord he
      dsimp only at hs
      cases hb : (!first && Nat.beq e.1 stop) with
      | true =>
        rw [hb] at hs
        simp only [Option.some.injEq, Prod.mk.injEq] at hs
        obtain ⟨rfl, rfl, rfl, rfl, rfl, rfl, rfl⟩ := hs
        exact ⟨hC, fun k => k⟩
      | false =>
        rw [hb] at hs
        dsimp only at hs
        have go : ∀ (dn : Nat) (ds' : List Nat) (C' : Option Prop) (t : Option Nat) (ls' st' : List AV) (h' : AH) (kc' ks' : Nat), sim X e.2.2.1 e.2.2.2.2 dn ls st h kc ks = some (C', t, ls', st', h', kc', ks') →
            (match t with
              | none => aSeg X stop n false (mE mi) rest' ds' (match C' with | none => C | some c => C ∧ c) (e.1 + 1) ls' st' h' kc' ks'
              | some t => aSeg X stop n false (mE mi) ((mE mi).drop t) ds' (match C' with | none => C | some c => C ∧ c) t ls' st' h' kc' ks') = some (C1, j1, ls1, st1, h1, kc1, ks1) →
            C ∧ (AW X d kc1 ks1 mi j1 ls1 st1 h1 Q → AW X d kc ks mi j ls st h Q) := by
          intro dn ds' C' t ls' st' h' kc' ks' hsim hs
          cases t with
          | none =>
            dsimp only at hs
            rw [hrest, ho] at hs
            obtain ⟨h1, h2⟩ := ih false ds' _ (j + 1) ls' st' h' kc' ks' hs hC
            obtain ⟨hc1, hc2⟩ := aHolds_and h1
            exact ⟨hc1, fun k => AWc.step ⟨e, he, Or.inl ⟨dn, C', none, ls', st', h', kc', ks', hsim, hc2, h2 k⟩⟩⟩
          | some t =>
            dsimp only at hs
            obtain ⟨h1, h2⟩ := ih false ds' _ t ls' st' h' kc' ks' hs hC
            obtain ⟨hc1, hc2⟩ := aHolds_and h1
            exact ⟨hc1, fun k => AWc.step ⟨e, he, Or.inl ⟨dn, C', some t, ls', st', h', kc', ks', hsim, hc2, h2 k⟩⟩⟩
        cases hbr : aIsBr e.2.2.1 with
        | true =>
          rw [hbr] at hs
          dsimp only at hs
          cases ds with
          | nil =>
            simp only [Option.some.injEq, Prod.mk.injEq] at hs
            obtain ⟨rfl, rfl, rfl, rfl, rfl, rfl, rfl⟩ := hs
            exact ⟨hC, fun k => k⟩
          | cons dn ds' =>
            dsimp only at hs
            cases hsim : sim X e.2.2.1 e.2.2.2.2 dn ls st h kc ks with
            | none => rw [hsim] at hs; cases hs
            | some x =>
              obtain ⟨C', t, ls', st', h', kc', ks'⟩ := x
              rw [hsim] at hs
              exact go dn ds' C' t ls' st' h' kc' ks' hsim hs
        | false =>
          rw [hbr] at hs
          dsimp only at hs
          cases hsim : sim X e.2.2.1 e.2.2.2.2 0 ls st h kc ks with
          | none =>
            rw [hsim] at hs
            simp only [Option.some.injEq, Prod.mk.injEq] at hs
            obtain ⟨rfl, rfl, rfl, rfl, rfl, rfl, rfl⟩ := hs
            exact ⟨hC, fun k => k⟩
          | some x =>
            obtain ⟨C', t, ls', st', h', kc', ks'⟩ := x
            rw [hsim] at hs
            exact go 0 ds C' t ls' st' h' kc' ks' hsim hs
/-- a stretch: by its evaluation; what its indices, branches .. ask; then the rest -/
theorem aw_seg {X : AX} {mi j d kc ks : Nat} {ls st : List AV} {h : AH} {Q : AQ} (stop : Nat) (ds : List Nat) {C1 : Prop} {j1 : Nat} {ls1 st1 : List AV} {h1 : AH} {kc1 ks1 : Nat}
    (hs : aSeg X stop 1000 true (mE mi) ((mE mi).drop j) ds True j ls st h kc ks = some (C1, j1, ls1, st1, h1, kc1, ks1)) (hC : C1) (k : AW X d kc1 ks1 mi j1 ls1 st1 h1 Q) : AW X d kc ks mi j ls st h Q :=
  (aSeg_sound 1000 true ds True j ls st h kc ks hs hC).2 k
/-- an end -/
theorem aw_ret {X : AX} {mi j d kc ks : Nat} {ls st : List AV} {h : AH} {Q : AQ} {e : AE} {C : Prop} {r : Option AV} (he : (mE mi)[j]? = some e) (hr : aRet e.2.2.1 (mA mi).2.2.2.1 st = some (C, r)) (hC : C) (hQ : Q r h) : AW X d kc ks mi j ls st h Q :=
  AWc.step ⟨e, he, Or.inr (Or.inr (Or.inl ⟨C, r, hr, hC, hQ⟩))⟩
/-- Object's constructor -/
theorem aw_oi {X : AX} {mi j d kc ks i : Nat} {ls rest : List AV} {h : AH} {Q : AQ} {o pc len q : Nat} (he : (mE mi)[j]? = some (o, pc, .invokespecial i, len, [7777])) (hw : Nat.ble (aWt rest) 8 = true) (k : AW X (d + 1) kc ks mi (j + 1) ls rest h Q) : AW X (d + 1) kc ks mi j ls (.inr (.inr (.inl (some q))) :: rest) h Q :=
  AWc.step ⟨_, he, Or.inr (Or.inr (Or.inr ⟨i, q, rest, d, rfl, rfl, rfl, Nat.le_of_ble_eq_true hw, rfl, k⟩))⟩
/-- the data of a call at a place -/
def aCallAt (mi j : Nat) (st : List AV) : Option (Nat × Nat × List AV × List AV) :=
  match (mE mi)[j]? with
  | none => none
  | some e => match aCall e.2.2.1 e.2.2.2.2 with
    | none => none
    | some (mj, n, k) => match Nat.ble (aNargs k n) st.length with
      | true => some (mj, k, (st.take (aNargs k n)).reverse, st.drop (aNargs k n))
      | false => none
theorem aw_call {X : AX} {mi j d kc1 ks1 kc2 ks2 kc ks : Nat} {ls st : List AV} {h : AH} {Q Q' : AQ} {mj k : Nat} {as rest le : List AV} (hc : aCallAt mi j st = some (mj, k, as, rest)) (hR : aRecv k mj h as) (hw : (Nat.ble (aWt rest) 8 && Nat.ble (aArgs as).length (mA mj).2.2.1) = true) (hle : aEntry mj as = le)
    (hM : AW X d kc1 ks1 mj 0 le [] h Q') (hkc : kc1 + kc2 = kc) (hks : ks1 + ks2 = ks) (kk : ∀ r h', Q' r h' → AW X (d + 1) kc2 ks2 mi (j + 1) ls (r.toList ++ rest) h' Q) : AW X (d + 1) kc ks mi j ls st h Q := by
  unfold aCallAt at hc
  cases he : (mE mi)[j]? with
  | none => rw [he] at hc; cases hc
  | some e =>
    rw [he] at hc
    dsimp only at hc
    cases hca : aCall e.2.2.1 e.2.2.2.2 with
    | none => rw [hca] at hc; cases hc
    | some x =>
      obtain ⟨mj', n, k'⟩ := x
      rw [hca] at hc
      dsimp only at hc
      cases hb : Nat.ble (aNargs k' n) st.length with
      | false => rw [hb] at hc; cases hc
      | true =>
        rw [hb] at hc
        simp only [Option.some.injEq, Prod.mk.injEq] at hc
        obtain ⟨rfl, rfl, rfl, rfl⟩ := hc
        have hlen := Nat.le_of_ble_eq_true hb
        simp only [Bool.and_eq_true] at hw
        subst hle
        exact AWc.step ⟨e, he, Or.inr (Or.inl ⟨mj', n, k', _, _, d, kc1, ks1, kc2, ks2, Q', hca, by rw [List.reverse_reverse, List.take_append_drop], by rw [List.length_reverse, List.length_take]; omega, ⟨Nat.le_of_ble_eq_true hw.1, Nat.le_of_ble_eq_true hw.2⟩, rfl, hkc.symm, hks.symm, hR, hM, kk⟩)⟩
/-- behind an end the post may be weaker -/
theorem aw_post {X : AX} {c : ACfg} {Q Q' : AQ} (h : AWc X c Q) (hq : ∀ r h, Q r h → Q' r h) : AWc X c Q' := by
  refine h (fun c Q => ∀ Q' : AQ, (∀ r h, Q r h → Q' r h) → AWc X c Q') ?_ Q' hq
  intro c Q hs Q' hq
  refine AWc.step ?_
  obtain ⟨d, kc, ks, mi, j, ls, st, hh⟩ := c
  obtain ⟨e, he, h⟩ := hs
  refine ⟨e, he, ?_⟩
  rcases h with ⟨dn, C, t, ls', st', h', kc', ks', h1, h2, h3⟩ | ⟨mj, n, k, as, rest, d', kc1, ks1, kc2, ks2, Q1, h1, h2, h3, h4, h5, h6, h7, h8, h9, h10⟩ | ⟨C, r, h1, h2, h3⟩ | ⟨i, q, rest, d', h1, h2, h3, h4, h5, h6⟩
  · exact Or.inl ⟨dn, C, t, ls', st', h', kc', ks', h1, h2, h3 Q' hq⟩
  · exact Or.inr (Or.inl ⟨mj, n, k, as, rest, d', kc1, ks1, kc2, ks2, Q1, h1, h2, h3, h4, h5, h6, h7, h8, h9 Q1 (fun _ _ q => q), fun r h' q => h10 r h' q Q' hq⟩)
  · exact Or.inr (Or.inr (Or.inl ⟨C, r, h1, h2, hq r _ h3⟩))
  · exact Or.inr (Or.inr (Or.inr ⟨i, q, rest, d', h1, h2, h3, h4, h5, h6 Q' hq⟩))

theorem aAnd_some {C o : Option Prop} {P : Prop} (h : aAnd C o = some P) (hP : P) : aHolds C ∧ ∃ P', o = some P' ∧ P' := by
  unfold aAnd at h
  cases o with
  | none => cases h
  | some P' =>
    cases C with
    | none => cases h; exact ⟨trivial, _, rfl, hP⟩
    | some c => cases h; exact ⟨hP.1, _, rfl, hP.2⟩
theorem aIf2_some {c : ClassFile.Cond} {x y : Int} {C : Prop} {o0 o1 : Option Prop} {P : Prop} (h : aIf2 c x y C o0 o1 = some P) (hP : P) : C ∧ ∃ P0 P1, o0 = some P0 ∧ o1 = some P1 ∧ ((aRel c x y ∧ P1) ∨ (¬ aRel c x y ∧ P0)) := by
  unfold aIf2 at h
  cases o0 with
  | none => cases h
  | some P0 =>
    cases o1 with
    | none => cases h
    | some P1 =>
      cases c <;> (dsimp only at h; cases h; obtain ⟨hc, h1, h2⟩ := hP; refine ⟨hc, P0, P1, rfl, rfl, ?_⟩; unfold aRel; dsimp only; unfold aImp at h1 h2)
      · rcases Classical.em (x = y) with q | q
        · exact Or.inl ⟨q, h1 q⟩
        · exact Or.inr ⟨q, h2 q⟩
      · rcases Classical.em (x = y) with q | q
        · exact Or.inr ⟨fun k => k q, h2 q⟩
        · exact Or.inl ⟨q, h1 q⟩
      · rcases Classical.em (x < y) with q | q
        · exact Or.inl ⟨q, h1 q⟩
        · exact Or.inr ⟨q, h2 (by omega)⟩
      · rcases Classical.em (y ≤ x) with q | q
        · exact Or.inl ⟨q, h1 q⟩
        · exact Or.inr ⟨q, h2 (by omega)⟩
      · rcases Classical.em (y < x) with q | q
        · exact Or.inl ⟨q, h1 q⟩
        · exact Or.inr ⟨q, h2 (by omega)⟩
      · rcases Classical.em (x ≤ y) with q | q
        · exact Or.inl ⟨q, h1 q⟩
        · exact Or.inr ⟨q, h2 (by omega)⟩
theorem aTabs_some {f : Nat → Option Prop} {x : Int} {o : Option Prop} : ∀ (ts : List Nat) (lo : Int) {P : Prop}, aTabs f x lo ts o = some P → P →
    (∃ P', o = some P' ∧ P') ∧ ∀ (dn : Nat) (t : Nat), ts[dn]? = some t → x = lo + dn → ∃ P', f t = some P' ∧ P' := by
  intro ts
  induction ts with
  | nil =>
    intro lo P h hP
    exact ⟨⟨P, h, hP⟩, fun dn t ht => by cases ht⟩
  | cons t ts ih =>
    intro lo P h hP
    unfold aTabs at h
    cases hf : f t with
    | none => rw [hf] at h; cases h
    | some P1 =>
      rw [hf] at h
      dsimp only at h
      cases hr : aTabs f x (lo + 1) ts o with
      | none => rw [hr] at h; cases h
      | some R =>
        rw [hr] at h
        cases h
        obtain ⟨h1, h2⟩ := ih (lo + 1) hr hP.2
        refine ⟨h1, ?_⟩
        intro dn t' ht hx
        cases dn with
        | zero => cases ht; exact ⟨P1, hf, hP.1 (by simpa using hx)⟩
        | succ k => exact h2 k t' ht (by rw [hx]; push_cast; omega)
theorem aRetP_some {ins : Instr} {ret : Option FieldType} {st : List AV} {h : AH} {Q : AQ} {P : Prop} (hs : aRetP ins ret st h Q = some P) (hP : P) : ∃ C r, aRet ins ret st = some (C, r) ∧ C ∧ Q r h := by
  unfold aRetP at hs
  unfold aRet
  split at hs
  · split at hs
    · split at hs <;> first | cases hs | skip
      · exact ⟨_, _, rfl, trivial, hP⟩
      · exact ⟨_, _, rfl, hP.1, hP.2⟩
      · exact ⟨_, _, rfl, hP.1, hP.2⟩
      · exact ⟨_, _, rfl, hP.1, hP.2⟩
    · cases hs
  · split at hs
    · split at hs
      · cases hs; exact ⟨_, _, rfl, trivial, hP⟩
      · cases hs
    · cases hs
  · split at hs
    · split at hs
      · cases hs; exact ⟨_, _, rfl, trivial, hP⟩
      · cases hs
    · cases hs
  · cases hs
theorem aTree_ok {X : AX} {I : AI} {k d mi : Nat} {Q : AQ} {nf : List (Bool × Nat)} {stops : List Nat} (hI : AIok X k I) :
    ∀ (n : Nat) (first : Bool) (j : Nat) (ls st : List AV) (h : AH) (kc ks : Nat) {P : Prop},
    aTree X I (fun j ls st h kc ks => AW X (d + k + 1) kc ks mi j ls st h Q) Q nf stops (mA mi) n first ((mE mi).drop j) j ls st h kc ks = some P → P → AW X (d + k + 1) kc ks mi j ls st h Q := by
  intro n
  induction n with
  | zero =>
    intro first j ls st h kc ks P hs hP
    unfold aTree at hs
    cases hs
    exact hP
  | succ n ih =>
    intro first j ls st h kc ks P hs hP
    rw [aTree.eq_def] at hs
    dsimp only at hs
    cases hr : (mE mi).drop j with
    | nil => rw [hr] at hs; cases hs
    | cons e rest' =>
      rw [hr] at hs
      have he : (mE mi)[j]? = some e := by
        have : ((mE mi).drop j)[0]? = some e := by rw [hr]; rfl
        rw [List.getElem?_drop] at this
        exact this
      have hrest : rest' = (mE mi).drop (j + 1) := by
        have : ((mE mi).drop j).drop 1 = rest' := by rw [hr]; rfl
        rw [List.drop_drop] at this
        exact this.symm
      have hfull : (mA mi).2.2.2.2 = mE mi := rfl
      rw [hfull] at hs
      dsimp only at hs
      have leaf : ∀ {P : Prop}, fL ls (fun ls => fL st (fun st => fG nf h (fun h => some (AW X (d + k + 1) kc ks mi j ls st h Q)))) = some P → P → AW X (d + k + 1) kc ks mi j ls st h Q := by
        intro P hs hP
        rw [fL_eq, fL_eq, fG_eq] at hs
        cases hs
        exact hP
      split at hs
      · exact leaf hs hP
      · split at hs
        · -- a branch
          split at hs
          · next c off hins =>
            split at hs
            · next x r =>
              split at hs
              · next t haux =>
                obtain ⟨hC, P0, P1, e0, e1, hor⟩ := aIf2_some hs hP
                rcases hor with ⟨hc, hp⟩ | ⟨hc, hp⟩
                · refine AWc.step ⟨e, he, Or.inl ⟨1, some (inR x ∧ aRel c x 0), some t, ls, r, h, kc, ks, ?_, ⟨hC, hc⟩, ?_⟩⟩
                  · rw [hins, haux]; rfl
                  · exact ih false t ls r h kc ks e1 hp
                · rw [hrest] at e0
                  refine AWc.step ⟨e, he, Or.inl ⟨0, some (inR x ∧ ¬ aRel c x 0), none, ls, r, h, kc, ks, ?_, ⟨hC, hc⟩, ?_⟩⟩
                  · rw [hins, haux]; rfl
                  · exact ih false (j + 1) ls r h kc ks e0 hp
              · cases hs
            · cases hs
          · next c off hins =>
            split at hs
            · next y x r =>
              split at hs
              · next t haux =>
                obtain ⟨hC, P0, P1, e0, e1, hor⟩ := aIf2_some hs hP
                rcases hor with ⟨hc, hp⟩ | ⟨hc, hp⟩
                · refine AWc.step ⟨e, he, Or.inl ⟨1, some (inR x ∧ inR y ∧ aRel c x y), some t, ls, r, h, kc, ks, ?_, ⟨hC.1, hC.2, hc⟩, ?_⟩⟩
                  · rw [hins, haux]; rfl
                  · exact ih false t ls r h kc ks e1 hp
                · rw [hrest] at e0
                  refine AWc.step ⟨e, he, Or.inl ⟨0, some (inR x ∧ inR y ∧ ¬ aRel c x y), none, ls, r, h, kc, ks, ?_, ⟨hC.1, hC.2, hc⟩, ?_⟩⟩
                  · rw [hins, haux]; rfl
                  · exact ih false (j + 1) ls r h kc ks e0 hp
              · cases hs
            · cases hs
          · next df lo hi offs hins =>
            split at hs
            · next x r =>
              split at hs
              · next t0 ts haux =>
                split at hs
                · next hlen =>
                  have hlen' := Nat.eq_of_beq_eq_true hlen
                  split at hs
                  · next Pd ed =>
                    obtain ⟨hC, P', e1, hp1⟩ := aAnd_some hs hP
                    obtain ⟨⟨P2, e2, hp2⟩, hall⟩ := aTabs_some ts lo e1 hp1
                    cases e2
                    rcases Classical.em (x < lo ∨ hi < x) with hd | hd
                    · refine AWc.step ⟨e, he, Or.inl ⟨ts.length, some (inR x ∧ (x < lo ∨ hi < x)), some t0, ls, r, h, kc, ks, ?_, ⟨hC, hd⟩, ?_⟩⟩
                      · rw [hins, haux]
                        show sTab lo hi (t0 :: ts) ts.length ls (.inl x :: r) h kc ks = _
                        unfold sTab
                        dsimp only
                        rw [List.getElem?_eq_none (Nat.le_refl _)]
                      · exact ih false t0 ls r h kc ks ed (hp2 hd)
                    · have hl : (x - lo).toNat < ts.length := by omega
                      have hx : x = lo + ((x - lo).toNat : Nat) := by omega
                      have ht := List.getElem?_eq_getElem hl
                      obtain ⟨P3, e3, hp3⟩ := hall _ _ ht hx
                      refine AWc.step ⟨e, he, Or.inl ⟨(x - lo).toNat, some (inR x ∧ x = lo + ((x - lo).toNat : Nat)), some (ts[(x - lo).toNat]), ls, r, h, kc, ks, ?_, ⟨hC, hx⟩, ?_⟩⟩
                      · rw [hins, haux]
                        show sTab lo hi (t0 :: ts) (x - lo).toNat ls (.inl x :: r) h kc ks = _
                        unfold sTab
                        dsimp only
                        rw [ht]
                      · exact ih false _ ls r h kc ks e3 hp3
                  · cases hs
                · cases hs
              · cases hs
            · cases hs
          · next df ps hins =>
            split at hs
            · next x r =>
              split at hs
              · next t0 t1 t2 haux =>
                split at hs
                · next k1 q1 k2 q2 hps =>
                  split at hs
                  · next P0 e0 =>
                    split at hs
                    · next P1 e1 =>
                      split at hs
                      · next P2 e2 =>
                        cases hs
                        obtain ⟨hC, h1, h2, h3⟩ := hP
                        have hsk : ∀ dn, sLook ps [t0, t1, t2] dn ls (.inl x :: r) h kc ks = (match dn with
                          | 0 => some (some (inR x ∧ x = k1), some t1, ls, r, h, kc, ks)
                          | 1 => some (some (inR x ∧ x = k2), some t2, ls, r, h, kc, ks)
                          | _ => some (some (inR x ∧ ¬ x = k1 ∧ ¬ x = k2), some t0, ls, r, h, kc, ks)) := by
                          intro dn
                          unfold sLook
                          dsimp only
                          rw [hps]
                          cases dn with
                          | zero => rfl
                          | succ m => cases m <;> rfl
                        rcases Classical.em (x = k1) with q1 | q1
                        · refine AWc.step ⟨e, he, Or.inl ⟨0, some (inR x ∧ x = k1), some t1, ls, r, h, kc, ks, ?_, ⟨hC, q1⟩, ?_⟩⟩
                          · rw [hins, haux]; exact hsk 0
                          · exact ih false t1 ls r h kc ks e1 (h1 q1)
                        · rcases Classical.em (x = k2) with q2 | q2
                          · refine AWc.step ⟨e, he, Or.inl ⟨1, some (inR x ∧ x = k2), some t2, ls, r, h, kc, ks, ?_, ⟨hC, q2⟩, ?_⟩⟩
                            · rw [hins, haux]; exact hsk 1
                            · exact ih false t2 ls r h kc ks e2 (h2 q2)
                          · refine AWc.step ⟨e, he, Or.inl ⟨2, some (inR x ∧ ¬ x = k1 ∧ ¬ x = k2), some t0, ls, r, h, kc, ks, ?_, ⟨hC, q1, q2⟩, ?_⟩⟩
                            · rw [hins, haux]; exact hsk 2
                            · exact ih false t0 ls r h kc ks e0 (h3 ⟨q1, q2⟩)
                      · cases hs
                    · cases hs
                  · cases hs
                · cases hs
              · cases hs
            · cases hs
          · cases hs
        · -- no branch
          rw [simP_eq] at hs
          split at hs
          · next C' t ls' st' h' kc' ks' hsim =>
            split at hs
            · obtain ⟨hC, P', e1, hp1⟩ := aAnd_some hs hP
              rw [hrest] at e1
              exact AWc.step ⟨e, he, Or.inl ⟨0, C', none, ls', st', h', kc', ks', hsim, hC, ih false (j + 1) ls' st' h' kc' ks' e1 hp1⟩⟩
            · next t' =>
              obtain ⟨hC, P', e1, hp1⟩ := aAnd_some hs hP
              exact AWc.step ⟨e, he, Or.inl ⟨0, C', some t', ls', st', h', kc', ks', hsim, hC, ih false t' ls' st' h' kc' ks' e1 hp1⟩⟩
          · split at hs
            · next mj na kk hcall =>
              split at hs
              · next hb =>
                have hcb : aCallB mi j st h = some (mj, (st.take (aNargs kk na)).reverse, st.drop (aNargs kk na)) := by
                  unfold aCallB
                  rw [he]
                  dsimp only
                  rw [hcall]
                  dsimp only
                  rw [hb]
                split at hs
                · next C r h' hi =>
                  split at hs
                  · next v =>
                    obtain ⟨hC, P', e1, hp1⟩ := aAnd_some hs hP
                    rw [hrest] at e1
                    exact aw_cf (hI _ _ _ _ _ _ hi hC d) hcb (Nat.zero_add _) (Nat.zero_add _) (ih false (j + 1) ls _ h' kc ks e1 hp1)
                  · obtain ⟨hC, P', e1, hp1⟩ := aAnd_some hs hP
                    rw [hrest] at e1
                    exact aw_cf (hI _ _ _ _ _ _ hi hC d) hcb (Nat.zero_add _) (Nat.zero_add _) (ih false (j + 1) ls _ h' kc ks e1 hp1)
                · exact leaf hs hP
              · cases hs
            · rw [fL_eq, fL_eq, fG_eq] at hs
              split at hs
              · next P' hret =>
                cases hs
                obtain ⟨C, r, h1, h2, h3⟩ := aRetP_some hret hP
                exact AWc.step ⟨e, he, Or.inr (Or.inr (Or.inl ⟨C, r, h1, h2, h3⟩))⟩
              · cases hs; exact hP
/-- a stretch and its branches, up to calls and stops -/
theorem aw_tree {X : AX} {I : AI} {k d mi j kc ks : Nat} {ls st : List AV} {h : AH} {Q : AQ} (hI : AIok X k I) (nf : List (Bool × Nat)) (stops : List Nat) {P : Prop}
    (hs : aTree X I (fun j ls st h kc ks => AW X (d + k + 1) kc ks mi j ls st h Q) Q nf stops (mA mi) 1000 true ((mE mi).drop j) j ls st h kc ks = some P) (hP : P) : AW X (d + k + 1) kc ks mi j ls st h Q :=
  aTree_ok hI 1000 true j ls st h kc ks hs hP

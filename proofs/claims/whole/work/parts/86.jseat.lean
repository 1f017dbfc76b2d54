theorem rcA_out {V : DP} {o f : FN} {g : Int} : ∀ (i : Nat), (∀ j : Nat, j < i → o j ≠ g) → rcA V o i f g = f g := by
  intro i
  induction i with
  | zero => intro _; rfl
  | succ i ih =>
    intro h
    rw [rcA, aUp_n _ _ (fun e => h i (by omega) e.symm)]
    exact ih (fun j hj => h j (by omega))
theorem roA_out {V : DP} {o f : FN} {g : Int} : ∀ (i : Nat), (∀ j : Nat, j < i → o j ≠ g) → roA V o i f g = f g := by
  intro i
  induction i with
  | zero => intro _; rfl
  | succ i ih =>
    intro h
    rw [roA, aUp_n _ _ (fun e => h i (by omega) e.symm)]
    exact ih (fun j hj => h j (by omega))
theorem poA_out {V : DP} {o f : FN} {g : Int} : ∀ (i : Nat), (∀ j : Nat, j < i → o j ≠ g) → poA V o i f g = f g := by
  intro i
  induction i with
  | zero => intro _; rfl
  | succ i ih =>
    intro h
    rw [poA]
    refine cif_ind (P := fun z : FN => z g = f g) (fun _ => ih (fun j hj => h j (by omega))) (fun _ => ?_)
    show aUp (poA V o i f) (o i) (plV V i) g = f g
    rw [aUp_n _ _ (fun e => h i (by omega) e.symm)]
    exact ih (fun j hj => h j (by omega))
/-- who sits down sits behind those who sit -/
theorem wst_le {V : DP} (h : kD V) {i : Nat} (hi : (i : Int) < dN V) (hc : ¬ roV V i = 6) : (wst V i).2.1 ≤ roV V i ∧ (roV V i = (wst V i).2.1 → (wst V i).2.2 ≤ plV V i) := by
  obtain ⟨c1, c2, c3⟩ := cho_sit h (l := (wst V i).1) (r := (wst V i).2.1) (p := (wst V i).2.2) (i := i) (by omega) hc
  have hw := wst_ok h i (by omega)
  have h7 := h.2.2.2.2.2.2.1
  refine ⟨c1, fun e => ?_⟩
  unfold plV begV
  rw [cif_t e]
  have hb : 0 ≤ cif (dB V (wst V i).1 i) (dF V) 0 := cif_ind (P := fun z => 0 ≤ z) (fun _ => by omega) (fun _ => by omega)
  by_cases c : (wst V i).1 < 0
  · rw [cif_t c]
    have := (hw.2.2.2 c).2
    omega
  · rw [cif_f c]
    omega
def bfV (V : DP) (j k : Nat) : Prop := roV V j < roV V k ∨ (roV V j = roV V k ∧ plV V j + dW V j ≤ plV V k)
theorem lnA_ok {V : DP} (h : kD V) {o h0 : FN} : ∀ (i : Nat), (i : Int) ≤ dN V →
    (∀ a, 0 ≤ a → a < (lnA V o i (h0, 0)).2 → ∃ j : Nat, j < i ∧ ¬ roV V j = 6 ∧ (lnA V o i (h0, 0)).1 a = o j ∧ (roV V j < (wst V i).2.1 ∨ (roV V j = (wst V i).2.1 ∧ plV V j + dW V j ≤ (wst V i).2.2))) ∧
    (∀ j : Nat, j < i → ¬ roV V j = 6 → ∃ a, 0 ≤ a ∧ a < (lnA V o i (h0, 0)).2 ∧ (lnA V o i (h0, 0)).1 a = o j) ∧
    (∀ a b, 0 ≤ a → a < b → b < (lnA V o i (h0, 0)).2 → ∃ j k : Nat, j < i ∧ k < i ∧ (lnA V o i (h0, 0)).1 a = o j ∧ (lnA V o i (h0, 0)).1 b = o k ∧ ¬ roV V j = 6 ∧ ¬ roV V k = 6 ∧ bfV V j k) := by
  intro i
  induction i with
  | zero =>
    intro _
    have e : (lnA V o 0 (h0, 0)).2 = 0 := rfl
    refine ⟨fun a a0 a1 => by omega, fun j hj => by omega, fun a b a0 ab b1 => by omega⟩
  | succ i ih =>
    intro hi
    obtain ⟨i1, i2, i3⟩ := ih (by push_cast at hi; omega)
    have hr := lnA_r (V := V) (o := o) (f := h0) i
    by_cases c : roV V i = 6
    · have e : lnA V o (i + 1) (h0, 0) = lnA V o i (h0, 0) := by rw [lnA, cif_t c]
      rw [e, wst_out c]
      refine ⟨fun a a0 a1 => ?_, fun j hj hc => ?_, fun a b a0 ab b1 => ?_⟩
      · obtain ⟨j, j1, j2⟩ := i1 a a0 a1
        exact ⟨j, by omega, j2⟩
      · have : j ≠ i := fun q => hc (q ▸ c)
        exact i2 j (by omega) hc
      · obtain ⟨j, k, j1, k1, r⟩ := i3 a b a0 ab b1
        exact ⟨j, k, by omega, by omega, r⟩
    · have e : lnA V o (i + 1) (h0, 0) = (aUp (lnA V o i (h0, 0)).1 (lnA V o i (h0, 0)).2 (o i), (lnA V o i (h0, 0)).2 + 1) := by rw [lnA, cif_f c]
      obtain ⟨w1, w2⟩ := wst_le h (i := i) (by push_cast at hi; omega) c
      have hw := h.2.2.1 i (by omega) (by push_cast at hi; omega)
      rw [e, wst_sit c]
      dsimp only
      generalize lnA V o i (h0, 0) = q at *
      refine ⟨fun a a0 a1 => ?_, fun j hj hc => ?_, fun a b a0 ab b1 => ?_⟩
      · by_cases ea : a = q.2
        · exact ⟨i, by omega, c, by rw [ea, aUp_s], Or.inr ⟨rfl, by omega⟩⟩
        · obtain ⟨j, j1, j2, j3, j4⟩ := i1 a a0 (by omega)
          refine ⟨j, by omega, j2, by rw [aUp_n _ _ ea]; exact j3, ?_⟩
          by_cases er : roV V i = (wst V i).2.1
          · have := w2 er
            omega
          · omega
      · by_cases ej : j = i
        · exact ⟨q.2, hr.1, by omega, by rw [aUp_s, ej]⟩
        · obtain ⟨a, a0, a1, a2⟩ := i2 j (by omega) hc
          exact ⟨a, a0, by omega, by rw [aUp_n _ _ (by omega)]; exact a2⟩
      · by_cases eb : b = q.2
        · obtain ⟨j, j1, j2, j3, j4⟩ := i1 a a0 (by omega)
          refine ⟨j, i, by omega, by omega, by rw [aUp_n _ _ (by omega)]; exact j3, by rw [eb, aUp_s], j2, c, ?_⟩
          unfold bfV
          by_cases er : roV V i = (wst V i).2.1
          · have := w2 er
            omega
          · omega
        · obtain ⟨j, k, j1, k1, j2, k2, r⟩ := i3 a b a0 ab (by omega)
          exact ⟨j, k, by omega, by omega, by rw [aUp_n _ _ (by omega)]; exact j2, by rw [aUp_n _ _ (by omega)]; exact k2, r⟩
/-- the seating ahead -/
theorem rS_sw {S : TyS} {mS : TyMS} {mG : TyMG} {rows : Int} (h : rS S mS mG rows) (hr : 0 ≤ rows ∧ rows ≤ 6) : rSw S (rwM mS) (pwM mS) := by
  have hk := (rS_k h hr).1
  intro g g0 g1
  have hkg := hk.2.2 g g0 g1
  have hm := rwM_r h.1 g g0 g1
  have e1 : rwM mS g = cif (mS.2.2.2.2.2.1 = 1 ∧ g < mS.2.2.2.2.2.2.2.2) (mS.1 g) 6 := cpy_lt 32 g g0 g1
  have e2 : pwM mS g = mS.2.1 g := cpy_lt 32 g g0 g1
  have hr1 := h.1.1 g
  refine ⟨hkg.1, hkg.2, hm.1, ?_, ?_⟩
  · rw [e1]
    rcases (h.2.2.2.2.2.1 g g0 g1).2 with ⟨a, b, c⟩ | ⟨a, b, c, e⟩ | ⟨a, b⟩
    · rw [cif_t ⟨a.1, a.2.2.1⟩]
      have := a.2.2.2
      omega
    · rw [cif_t ⟨a, b⟩]
      omega
    · by_cases q : mS.2.2.2.2.2.1 = 1 ∧ g < mS.2.2.2.2.2.2.2.2
      · rw [cif_t q]
        have : ¬ mS.1 g ≤ 6 := fun z => a ⟨q.1, q.2, z⟩
        omega
      · rw [cif_f q]
        omega
  · intro h0
    rw [e1, e2]
    rcases (h.2.2.2.2.2.1 g g0 g1).2 with ⟨a, b, c⟩ | ⟨a, b, c, e⟩ | ⟨a, b⟩
    · rw [cif_t ⟨a.1, a.2.2.1⟩]
      exact ⟨b, c⟩
    · omega
    · omega
/-- the new seating: the class's against the model's -/
theorem seat_rS {mG : TyMG} {mR : TyMR} {V : DP} {o rw' pw f0 g0 h0 ro0 po0 f : FN} {n an rws : Int} (hVd : V = DM mG mR o n rw' pw an) (hV : kD V) (hG : kG mG) (hn : 0 ≤ n ∧ n ≤ 32) (ho : ∀ i, 0 ≤ i → i < n → 0 ≤ o i ∧ o i < mG.2.2.2) (hinj : ∀ a b : Nat, a < n.toNat → b < n.toNat → o a = o b → a = b) (hr0 : ∀ k, 0 ≤ ro0 k ∧ ro0 k ≤ 7) (hp0 : ∀ k, 0 ≤ po0 k ∧ po0 k ≤ 40) (hrw : rws = mR.2.2.2.1) (hrr : 0 ≤ mR.2.2.2.1 ∧ mR.2.2.2.1 ≤ 6) :
    rS (rcA V o n.toNat (fil f0 (-2) 32), poA V o n.toNat (fil g0 (-1) 32), (lnA V o n.toNat (h0, 0)).1, (lnA V o n.toNat (h0, 0)).2, rws, smN (eV V o rw' pw) n.toNat, 1)
      (roA V o n.toNat (fil ro0 7 32), poA V o n.toNat po0, rw', pw, f, 1, mR.2.2.2.1, smN (fun i => mvM rw' pw 1 (o i) (roA V o n.toNat (fil ro0 7 32) (o i)) (poA V o n.toNat po0 (o i))) n.toNat, mG.2.2.2) mG mR.2.2.2.1 := by
  have hdn : dN V = n := by rw [hVd]; rfl
  have hdr : dR V = mR.2.2.2.1 := by rw [hVd]; rfl
  have hdw : ∀ i, dW V i = mG.1 (6 * o i + 4) := by intro i; rw [hVd]; rfl
  have hg := hG.1
  have hro7 : ∀ k, 0 ≤ fil ro0 7 32 k ∧ fil ro0 7 32 k ≤ 7 := by
    intro k
    by_cases c : 0 ≤ k ∧ k < ((32 : Nat) : Int)
    · rw [fil_lt 32 k c.1 c.2]; omega
    · rw [fil_ge 32 k c]; exact hr0 k
  have hroV : ∀ j : Nat, j < n.toNat → 0 ≤ roV V j ∧ roV V j ≤ 6 := fun j hj => (cho_ok hV (l := (wst V j).1) (r := (wst V j).2.1) (p := (wst V j).2.2) (i := j) (by omega)).1
  have a1 : ∀ j : Nat, j < n.toNat → roA V o n.toNat (fil ro0 7 32) (o j) = roV V j := fun j hj => roA_at hinj n.toNat (Nat.le_refl _) j hj
  have a2 : ∀ j : Nat, j < n.toNat → poA V o n.toNat po0 (o j) = cif (roV V j = 6) (po0 (o j)) (plV V j) := fun j hj => poA_at hinj n.toNat (Nat.le_refl _) j hj
  have a3 : ∀ j : Nat, j < n.toNat → rcA V o n.toNat (fil f0 (-2) 32) (o j) = cif (roV V j = 6) (-1) (roV V j) := fun j hj => rcA_at hinj n.toNat (Nat.le_refl _) j hj
  have a4 : ∀ j : Nat, j < n.toNat → poA V o n.toNat (fil g0 (-1) 32) (o j) = cif (roV V j = 6) (fil g0 (-1) 32 (o j)) (plV V j) := fun j hj => poA_at hinj n.toNat (Nat.le_refl _) j hj
  have hoj : ∀ j : Nat, j < n.toNat → 0 ≤ o j ∧ o j < mG.2.2.2 := fun j hj => ho j (by omega) (by omega)
  have out : ∀ g, (¬ ∃ j : Nat, j < n.toNat ∧ o j = g) → ∀ j : Nat, j < n.toNat → o j ≠ g := fun g hno j hj e => hno ⟨j, hj, e⟩
  obtain ⟨l1, l2, l3⟩ := lnA_ok hV (o := o) (h0 := h0) n.toNat (by omega)
  have lr := lnA_r (V := V) (o := o) (f := h0) n.toNat
  have hsat : ∀ g, satM (roA V o n.toNat (fil ro0 7 32), poA V o n.toNat po0, rw', pw, f, 1, mR.2.2.2.1, smN (fun i => mvM rw' pw 1 (o i) (roA V o n.toNat (fil ro0 7 32) (o i)) (poA V o n.toNat po0 (o i))) n.toNat, mG.2.2.2) g → ∃ j : Nat, j < n.toNat ∧ o j = g ∧ ¬ roV V j = 6 := by
    intro g hs
    have s4 : roA V o n.toNat (fil ro0 7 32) g < 6 := hs.2.2.2
    have s3 : g < mG.2.2.2 := hs.2.2.1
    by_cases c : ∃ j : Nat, j < n.toNat ∧ o j = g
    · obtain ⟨j, j1, j2⟩ := c
      rw [← j2, a1 j j1] at s4
      exact ⟨j, j1, j2, by omega⟩
    · rw [roA_out n.toNat (out g c), fil_lt 32 g hs.2.1 (by omega)] at s4
      omega
  have mksat : ∀ j : Nat, j < n.toNat → ¬ roV V j = 6 → satM (roA V o n.toNat (fil ro0 7 32), poA V o n.toNat po0, rw', pw, f, 1, mR.2.2.2.1, smN (fun i => mvM rw' pw 1 (o i) (roA V o n.toNat (fil ro0 7 32) (o i)) (poA V o n.toNat po0 (o i))) n.toNat, mG.2.2.2) (o j) := by
    intro j hj hc
    have := hroV j hj
    refine ⟨rfl, (hoj j hj).1, (hoj j hj).2, ?_⟩
    show roA V o n.toNat (fil ro0 7 32) (o j) < 6
    rw [a1 j hj]
    omega
  have hmv := smN_01 (e := eV V o rw' pw) (fun k => mvM_r _ _ _ _ _ _) n.toNat
  refine ⟨⟨roA_r hV _ _ (by omega) hro7, poA_r hV _ _ (by omega) hp0, Or.inr rfl, hg⟩, rfl, ⟨hrw, hrr.1, Int.le_refl _⟩, ⟨?_, hmv.1, by show smN (eV V o rw' pw) n.toNat ≤ 32; omega⟩, Int.le_refl _, fun g z0 z1 => ⟨?_, ?_⟩, fun g hs => ?_, ⟨⟨lr.1, by show (lnA V o n.toNat (h0, 0)).2 ≤ 32; omega⟩, fun a b z0 ab b1 => ?_, fun a z0 z1 => ?_, fun g hs => ?_⟩, fun z => by cases z⟩
  · show smN (eV V o rw' pw) n.toNat = smN (fun i => mvM rw' pw 1 (o i) (roA V o n.toNat (fil ro0 7 32) (o i)) (poA V o n.toNat po0 (o i))) n.toNat
    refine smN_congr _ (fun k k0 k1 => ?_)
    obtain ⟨j, rfl⟩ : ∃ j : Nat, k = j := ⟨k.toNat, by omega⟩
    unfold eV
    rw [show ((j : Int)).toNat = j from by omega, a1 j (by omega), a2 j (by omega)]
    by_cases c : roV V j = 6
    · rw [c]
      unfold mvM
      rw [cif_f (show ¬ (1 : Int) = 0 from by omega), cif_f (show ¬ (1 : Int) = 0 from by omega), cif_t rfl, cif_t rfl]
    · rw [cif_f c]
  · show -1 ≤ poA V o n.toNat (fil g0 (-1) 32) g ∧ poA V o n.toNat (fil g0 (-1) 32) g ≤ 40
    by_cases c : ∃ j : Nat, j < n.toNat ∧ o j = g
    · obtain ⟨j, j1, j2⟩ := c
      rw [← j2, a4 j j1]
      by_cases c6 : roV V j = 6
      · rw [cif_t c6, j2, fil_lt 32 g z0 z1]; omega
      · rw [cif_f c6]
        have := plV_r hV (i := j) (by omega) c6
        have := hV.2.2.1 j (by omega) (by omega)
        omega
    · rw [poA_out n.toNat (out g c), fil_lt 32 g z0 z1]; omega
  · by_cases c : ∃ j : Nat, j < n.toNat ∧ o j = g
    · obtain ⟨j, j1, j2⟩ := c
      by_cases c6 : roV V j = 6
      · refine Or.inr (Or.inl ⟨rfl, ?_, ?_, ?_⟩)
        · show g < mG.2.2.2
          rw [← j2]; exact (hoj j j1).2
        · show roA V o n.toNat (fil ro0 7 32) g = 6
          rw [← j2, a1 j j1, c6]
        · show rcA V o n.toNat (fil f0 (-2) 32) g = -1
          rw [← j2, a3 j j1, cif_t c6]
      · refine Or.inl ⟨by rw [← j2]; exact mksat j j1 c6, ?_, ?_⟩
        · show rcA V o n.toNat (fil f0 (-2) 32) g = roA V o n.toNat (fil ro0 7 32) g
          rw [← j2, a3 j j1, a1 j j1, cif_f c6]
        · show poA V o n.toNat (fil g0 (-1) 32) g = poA V o n.toNat po0 g
          rw [← j2, a4 j j1, a2 j j1, cif_f c6, cif_f c6]
    · refine Or.inr (Or.inr ⟨fun z => ?_, ?_⟩)
      · have z2 : roA V o n.toNat (fil ro0 7 32) g ≤ 6 := z.2.2
        rw [roA_out n.toNat (out g c), fil_lt 32 g z0 z1] at z2
        omega
      · show rcA V o n.toNat (fil f0 (-2) 32) g = -2
        rw [rcA_out n.toNat (out g c), fil_lt 32 g z0 z1]
  · obtain ⟨j, j1, j2, j3⟩ := hsat g hs
    show roA V o n.toNat (fil ro0 7 32) g < mR.2.2.2.1
    rw [← j2, a1 j j1, ← hdr]
    exact (plV_r hV (i := j) (by omega) j3).2.2.1
  · obtain ⟨j, k, j1, k1, j2, k2, j3, k3, hb⟩ := l3 a b z0 ab b1
    show roA V o n.toNat (fil ro0 7 32) ((lnA V o n.toNat (h0, 0)).1 a) < roA V o n.toNat (fil ro0 7 32) ((lnA V o n.toNat (h0, 0)).1 b) ∨ (roA V o n.toNat (fil ro0 7 32) ((lnA V o n.toNat (h0, 0)).1 a) = roA V o n.toNat (fil ro0 7 32) ((lnA V o n.toNat (h0, 0)).1 b) ∧ poA V o n.toNat po0 ((lnA V o n.toNat (h0, 0)).1 a) + mG.1 (6 * (lnA V o n.toNat (h0, 0)).1 a + 4) ≤ poA V o n.toNat po0 ((lnA V o n.toNat (h0, 0)).1 b))
    rw [j2, k2, a1 j j1, a1 k k1, a2 j j1, a2 k k1, cif_f j3, cif_f k3, ← hdw j]
    exact hb
  · obtain ⟨j, j1, j2, j3, j4⟩ := l1 a z0 z1
    show satM _ ((lnA V o n.toNat (h0, 0)).1 a)
    rw [j3]
    exact mksat j j1 j2
  · obtain ⟨j, j1, j2, j3⟩ := hsat g hs
    obtain ⟨a, z0, z1, z2⟩ := l2 j j1 j3
    exact ⟨a, z0, z1, by rw [← j2]; exact z2⟩

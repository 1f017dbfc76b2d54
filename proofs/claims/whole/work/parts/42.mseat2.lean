theorem roA_r {D : DP} (h : kD D) {o : FN} : ∀ (i : Nat) (f : FN), (i : Int) ≤ dN D → (∀ k, 0 ≤ f k ∧ f k ≤ 7) → ∀ k, 0 ≤ roA D o i f k ∧ roA D o i f k ≤ 7 := by
  intro i
  induction i with
  | zero => intro f _ hf; exact hf
  | succ i ih =>
    intro f hi hf k
    rw [roA]
    have c := (cho_ok h (l := (wst D i).1) (r := (wst D i).2.1) (p := (wst D i).2.2) (i := i) (by omega)).1
    by_cases e : k = o i
    · rw [e, aUp_s]; unfold roV; omega
    · rw [aUp_n _ _ e]; exact ih f (by omega) hf k
theorem plV_r {D : DP} (h : kD D) {i : Nat} (hi : (i : Int) < dN D) (hc : ¬ roV D i = 6) : (0 ≤ plV D i ∧ plV D i + dW D i ≤ 40) ∧ (0 ≤ roV D i ∧ roV D i < dR D ∧ plV D i + dW D i ≤ dX D (roV D i)) := by
  obtain ⟨b1, b2, b3, b4⟩ := wst_ok h i (by omega)
  obtain ⟨c1, c2, c3⟩ := cho_sit h (l := (wst D i).1) (r := (wst D i).2.1) (p := (wst D i).2.2) (i := i) (by omega) hc
  have hb := begV_nn h (l := (wst D i).1) (i := i) (r := (wst D i).2.1) (p := (wst D i).2.2) (to := roV D i) b3.1
  have hx := h.2.2.2.2.2.1 (roV D i) (by unfold roV; omega) c2
  unfold plV
  unfold roV at *
  omega
theorem poA_r {D : DP} (h : kD D) {o : FN} : ∀ (i : Nat) (f : FN), (i : Int) ≤ dN D → (∀ k, 0 ≤ f k ∧ f k ≤ 40) → ∀ k, 0 ≤ poA D o i f k ∧ poA D o i f k ≤ 40 := by
  intro i
  induction i with
  | zero => intro f _ hf; exact hf
  | succ i ih =>
    intro f hi hf k
    rw [poA]
    by_cases hc : roV D i = 6
    · rw [cif_t hc]; exact ih f (by omega) hf k
    · rw [cif_f hc]
      have := plV_r h (i := i) (by omega) hc
      have h3 := h.2.2.1 i (by omega) (by omega)
      by_cases e : k = o i
      · rw [e, aUp_s]; omega
      · rw [aUp_n _ _ e]; exact ih f (by omega) hf k
theorem m_scan {X : AX} (d : Nat) (a : AC49) (mT : TyT) (mG : TyMG) (mR : TyMR) (mU : TyMU) (mP : TyMP) (mO : TyO) (ro po rw' pw f : FN) (s4 : Int × Int × Int × Int) (mN : TyMN) (t : AH) (an i l r p : Int) {Q : AQ} (hG : kG mG) (hR : kR mR) (hO : 0 ≤ mO.2 ∧ mO.2 ≤ 32) (ho : ∀ i, 0 ≤ i → i < mO.2 → 0 ≤ mO.1 i ∧ mO.1 i < mG.2.2.2) (han : an = 0 ∨ an = 1) (hw : ∀ i, 0 ≤ i → i < 32 → (0 ≤ rw' i ∧ rw' i ≤ 7) ∧ (0 ≤ pw i ∧ pw i ≤ 40)) (hi : 0 ≤ i ∧ i < mO.2) (hl : -1 ≤ l ∧ l < i) (hr : 0 ≤ r ∧ r < 6) (hp : 0 ≤ p ∧ p < 41) (hT0 : TB (DM mG mR mO.1 mO.2 rw' pw an) i f) (hT : TB (DM mG mR mO.1 mO.2 rw' pw an) (i + 1) f) (v7 v8 : AV) :
    ∀ (m : Nat) (k : Int), 0 ≤ k → k + m = 6 → (∃ s, k ≤ s ∧ s ≤ k + m ∧ ovV (DM mG mR mO.1 mO.2 rw' pw an) i l r p s = pr4 (DM mG mR mO.1 mO.2 rw' pw an) i l r p) → AW X (d + 5) 0 0 132 151 [rf 49, iv an, iv l, iv r, iv p, iv i, iv (scF (ovV (DM mG mR mO.1 mO.2 rw' pw an) i l r p) (pr4 (DM mG mR mO.1 mO.2 rw' pw an) i l r p) m k), v7, v8] [] (CV a (MH mT mG mR mU mP mO (ro, po, rw', pw, f, s4) mN t)) Q → AW X (d + 5) 0 0 132 132 [rf 49, iv an, iv l, iv r, iv p, iv i, iv k, v7, v8] [] (CV a (MH mT mG mR mU mP mO (ro, po, rw', pw, f, s4) mN t)) Q := by
  have hD := DM_k (rw' := rw') (pw := pw) (an := an) hG hR hO ho
  have hg := hG.1
  have e0 : f (((33 * i + l + 1) * 6 + r) * 41 + p) = pr4 (DM mG mR mO.1 mO.2 rw' pw an) i l r p := hT0 l r p hl.1 hl.2 hr.1 hr.2 hp.1 hp.2
  have hv := VV_r hD (mO.2 - i).toNat (dB (DM mG mR mO.1 mO.2 rw' pw an) l) r (cif (l < 0) 0 p) (by show ((mO.2 - i).toNat : Int) ≤ mO.2; omega)
  have hpr : 0 ≤ pr4 (DM mG mR mO.1 mO.2 rw' pw an) i l r p ∧ pr4 (DM mG mR mO.1 mO.2 rw' pw an) i l r p ≤ 64001 * (mO.2 - i).toNat := hv
  intro m
  induction m with
  | zero =>
    intro k k0 k1 ⟨s, s0, s1, s2⟩ hQ
    have es : s = k := by omega
    subst es
    have e1 := pay_ov (l := l) (r := r) (p := p) hD hi hl hr hp hT s (by omega)
    have r2 := ov_r (l := l) (r := r) (p := p) hD hi s
    rw [scF] at hQ
    refine aw_tree (I0_ok X _) [(false, 49), (true, 24)] [132, 151] rfl ?_
    refine aw_cf0 (m_pays _ a mT mG mR mU mP mO (ro, po, rw', pw, f, s4) mN t i l r p s an hl (by omega) hr (by omega) (by omega) han (fun j j0 j1 => by have := ho j j0 (by omega); omega) hG hR hw) rfl ?_
    dsimp only
    rw [e1]
    refine aw_tree (I0_ok X _) [(false, 49), (true, 24)] [132, 151] rfl ?_
    dsimp only
    rw [e0]
    repeat' (first | refine And.intro ?_ ?_ | (refine aImp_e0 ?_; intro _) | (refine aImp_n0 ?_; intro _) | (refine aImp_i ?_; intro _))
    all_goals (try (first | omega | exact bI_01 _ | exact bI_lo _ | exact bI_hi _ | exact bI_hi' _ | exact trivial | exact Or.inl rfl | exact Or.inr rfl | (exfalso; omega)))
    exact hQ
  | succ m ih =>
    intro k k0 k1 hs hQ
    obtain ⟨s, s0, s1, s2⟩ := hs
    have e1 := pay_ov (l := l) (r := r) (p := p) hD hi hl hr hp hT k (by omega)
    have r2 := ov_r (l := l) (r := r) (p := p) hD hi k
    rw [scF] at hQ
    refine aw_tree (I0_ok X _) [(false, 49), (true, 24)] [132, 151] rfl ?_
    refine aw_cf0 (m_pays _ a mT mG mR mU mP mO (ro, po, rw', pw, f, s4) mN t i l r p k an hl (by omega) hr (by omega) (by omega) han (fun j j0 j1 => by have := ho j j0 (by omega); omega) hG hR hw) rfl ?_
    dsimp only
    rw [e1]
    refine aw_tree (I0_ok X _) [(false, 49), (true, 24)] [132, 151] rfl ?_
    dsimp only
    rw [e0]
    repeat' (first | refine And.intro ?_ ?_ | (refine aImp_e0 ?_; intro _) | (refine aImp_n0 ?_; intro _) | (refine aImp_i ?_; intro _))
    all_goals (try (first | omega | exact bI_01 _ | exact bI_lo _ | exact bI_hi _ | exact bI_hi' _ | exact trivial | exact Or.inl rfl | exact Or.inr rfl | (exfalso; omega)))
    · next he =>
      rw [cif_t he] at hQ
      exact hQ
    · next he =>
      rw [cif_f he] at hQ
      refine ih (k + 1) (by omega) (by omega) ⟨s, ?_, by omega, s2⟩ hQ
      have : s ≠ k := fun q => he (q ▸ s2)
      omega
theorem m_walk {X : AX} (d : Nat) (a : AC49) (mT : TyT) (mG : TyMG) (mR : TyMR) (mU : TyMU) (mP : TyMP) (mO : TyO) (ro0 po0 rw' pw f : FN) (s4 : Int × Int × Int × Int) (mN : TyMN) (t : AH) (an : Int) {Q : AQ} (hG : kG mG) (hR : kR mR) (hO : 0 ≤ mO.2 ∧ mO.2 ≤ 32) (ho : ∀ i, 0 ≤ i → i < mO.2 → 0 ≤ mO.1 i ∧ mO.1 i < mG.2.2.2) (han : an = 0 ∨ an = 1) (hw : ∀ i, 0 ≤ i → i < 32 → (0 ≤ rw' i ∧ rw' i ≤ 7) ∧ (0 ≤ pw i ∧ pw i ≤ 40)) (hT : ∀ j, 0 ≤ j → j ≤ mO.2 → TB (DM mG mR mO.1 mO.2 rw' pw an) j f)
    (hQ : ∀ (v2 v3 v4 v5 v6 v7 v8 : AV), aIsLong v4 = false → AW X (d + 5) 0 0 132 196 [rf 49, iv an, v2, v3, v4, v5, v6, v7, v8] [] (CV a (MH mT mG mR mU mP mO (roA (DM mG mR mO.1 mO.2 rw' pw an) mO.1 mO.2.toNat ro0, poA (DM mG mR mO.1 mO.2 rw' pw an) mO.1 mO.2.toNat po0, rw', pw, f, s4) mN t)) Q) :
    ∀ (m i : Nat) (v6 v7 v8 : AV), i + m = mO.2.toNat → AW X (d + 5) 0 0 132 126 [rf 49, iv an, iv (wst (DM mG mR mO.1 mO.2 rw' pw an) i).1, iv (wst (DM mG mR mO.1 mO.2 rw' pw an) i).2.1, iv (wst (DM mG mR mO.1 mO.2 rw' pw an) i).2.2, iv i, v6, v7, v8] [] (CV a (MH mT mG mR mU mP mO (roA (DM mG mR mO.1 mO.2 rw' pw an) mO.1 i ro0, poA (DM mG mR mO.1 mO.2 rw' pw an) mO.1 i po0, rw', pw, f, s4) mN t)) Q := by
  have hD := DM_k (rw' := rw') (pw := pw) (an := an) hG hR hO ho
  have hg := hG.1
  have g5 := hG.2.2.2.2.2
  intro m
  induction m with
  | zero =>
    intro i v6 v7 v8 hi
    have e : i = mO.2.toNat := by omega
    subst e
    have goal := hQ (iv (wst (DM mG mR mO.1 mO.2 rw' pw an) mO.2.toNat).1) (iv (wst (DM mG mR mO.1 mO.2 rw' pw an) mO.2.toNat).2.1) (iv (wst (DM mG mR mO.1 mO.2 rw' pw an) mO.2.toNat).2.2) (iv mO.2.toNat) v6 v7 v8 rfl
    refine aw_tree (I0_ok X _) [(false, 49), (true, 24)] [126, 132, 196] rfl ?_
    dsimp only
    repeat' (first | refine And.intro ?_ ?_ | (refine aImp_e0 ?_; intro _) | (refine aImp_n0 ?_; intro _) | (refine aImp_i ?_; intro _))
    all_goals (try (first | omega | exact bI_01 _ | exact bI_lo _ | exact bI_hi _ | exact bI_hi' _ | exact trivial | exact Or.inl rfl | exact Or.inr rfl | (exfalso; omega)))
    exact goal
  | succ m ih =>
    intro i v6 v7 v8 hi
    obtain ⟨b1, b2, b3, b4⟩ := wst_ok hD i (by show (i : Int) ≤ mO.2; omega)
    have hidx : (0 : Int) ≤ i ∧ (i : Int) < mO.2 := by omega
    have hc := cho_ok hD (l := (wst (DM mG mR mO.1 mO.2 rw' pw an) i).1) (r := (wst (DM mG mR mO.1 mO.2 rw' pw an) i).2.1) (p := (wst (DM mG mR mO.1 mO.2 rw' pw an) i).2.2) (i := i) hidx
    have ih' := ih (i + 1)
    have eb := begM_V (mG := mG) (mR := mR) (o := mO.1) (n := mO.2) (rw' := rw') (pw := pw) (an := an) (l := (wst (DM mG mR mO.1 mO.2 rw' pw an) i).1) (i := i) (row := (wst (DM mG mR mO.1 mO.2 rw' pw an) i).2.1) (place := (wst (DM mG mR mO.1 mO.2 rw' pw an) i).2.2) (to := roV (DM mG mR mO.1 mO.2 rw' pw an) i)
    have epl : begM mG mO.1 mR.2.2.2.2.2.1 (wst (DM mG mR mO.1 mO.2 rw' pw an) i).1 i (wst (DM mG mR mO.1 mO.2 rw' pw an) i).2.1 (wst (DM mG mR mO.1 mO.2 rw' pw an) i).2.2 (roV (DM mG mR mO.1 mO.2 rw' pw an) i) = plV (DM mG mR mO.1 mO.2 rw' pw an) i := eb
    have hro : (0 ≤ roV (DM mG mR mO.1 mO.2 rw' pw an) i ∧ roV (DM mG mR mO.1 mO.2 rw' pw an) i ≤ 6) := hc.1
    have hwout := wst_out (D := DM mG mR mO.1 mO.2 rw' pw an) (i := i)
    have hwsit := wst_sit (D := DM mG mR mO.1 mO.2 rw' pw an) (i := i)
    rw [roA, poA] at ih'
    have hoi := ho i hidx.1 hidx.2
    refine aw_tree (I0_ok X _) [(false, 49), (true, 24)] [126, 132, 196] rfl ?_
    dsimp only
    repeat' (first | refine And.intro ?_ ?_ | (refine aImp_e0 ?_; intro _) | (refine aImp_n0 ?_; intro _) | (refine aImp_i ?_; intro _))
    all_goals (try (first | omega | exact bI_01 _ | exact bI_lo _ | exact bI_hi _ | exact bI_hi' _ | exact trivial | exact Or.inl rfl | exact Or.inr rfl | (exfalso; omega)))
    refine m_scan d a mT mG mR mU mP mO _ _ rw' pw f s4 mN t an i (wst (DM mG mR mO.1 mO.2 rw' pw an) i).1 (wst (DM mG mR mO.1 mO.2 rw' pw an) i).2.1 (wst (DM mG mR mO.1 mO.2 rw' pw an) i).2.2 hG hR hO ho han hw hidx b1 b2 (by omega) (hT i (by omega) (by omega)) (hT (i + 1) (by omega) (by omega)) v7 v8 6 0 (by omega) (by omega) ⟨roV (DM mG mR mO.1 mO.2 rw' pw an) i, hro.1, by omega, hc.2.1⟩ ?_
    show AW X (d + 5) 0 0 132 151 [rf 49, iv an, iv (wst (DM mG mR mO.1 mO.2 rw' pw an) i).1, iv (wst (DM mG mR mO.1 mO.2 rw' pw an) i).2.1, iv (wst (DM mG mR mO.1 mO.2 rw' pw an) i).2.2, iv i, iv (roV (DM mG mR mO.1 mO.2 rw' pw an) i), v7, v8] [] _ Q
    generalize wst (DM mG mR mO.1 mO.2 rw' pw an) (i + 1) = w' at *
    generalize wst (DM mG mR mO.1 mO.2 rw' pw an) i = w at *
    generalize roV (DM mG mR mO.1 mO.2 rw' pw an) i = ch at *
    generalize plV (DM mG mR mO.1 mO.2 rw' pw an) i = pl at *
    by_cases h6 : ch = 6
    · rw [hwout h6, cif_t h6] at ih'
      refine aw_tree (I0_ok X _) [(false, 49), (true, 24)] [126] rfl ?_
      dsimp only
      repeat' (first | refine And.intro ?_ ?_ | (refine aImp_e0 ?_; intro _) | (refine aImp_n0 ?_; intro _) | (refine aImp_i ?_; intro _))
      all_goals (try (first | omega | exact bI_01 _ | exact bI_lo _ | exact bI_hi _ | exact bI_hi' _ | exact trivial | exact Or.inl rfl | exact Or.inr rfl | (exfalso; omega)))
      exact ih' (iv ch) (iv (mO.1 i)) v8 (by omega)
    · rw [hwsit h6, cif_f h6] at ih'
      refine aw_tree (I0_ok X _) [(false, 49), (true, 24)] [126] rfl ?_
      dsimp only
      repeat' (first | refine And.intro ?_ ?_ | (refine aImp_e0 ?_; intro _) | (refine aImp_n0 ?_; intro _) | (refine aImp_i ?_; intro _))
      all_goals (try (first | omega | exact bI_01 _ | exact bI_lo _ | exact bI_hi _ | exact bI_hi' _ | exact trivial | exact Or.inl rfl | exact Or.inr rfl | (exfalso; omega)))
      refine aw_cf0 (m_begins _ a mT mG mR mU mP mO (_, _, rw', pw, f, s4) mN t i w.1 w.2.1 w.2.2 ch (by omega) (by omega) (by omega) (by omega) (fun j hj => by have := ho j (by omega) (by omega); omega) g5) rfl ?_
      rw [epl]
      have goal := ih' (iv ch) (iv (mO.1 i)) v8 (by omega)
      refine aw_tree (I0_ok X _) [(false, 49), (true, 24)] [126] rfl ?_
      dsimp only
      repeat' (first | refine And.intro ?_ ?_ | (refine aImp_e0 ?_; intro _) | (refine aImp_n0 ?_; intro _) | (refine aImp_i ?_; intro _))
      all_goals (try (first | omega | exact bI_01 _ | exact bI_lo _ | exact bI_hi _ | exact bI_hi' _ | exact trivial | exact Or.inl rfl | exact Or.inr rfl | (exfalso; omega)))
      have eself : ∀ g : FN, aUp g (mO.1 i) pl (mO.1 i) = pl := fun g => aUp_s _ _ _
      rw [eself]
      exact goal

/-! ===== the model's table ===== -/
theorem mnK_congr {f g : Int → Int} : ∀ (k : Nat), (∀ t, 0 ≤ t → t < (k : Int) → f t = g t) → mnK f k = mnK g k := by
  intro k
  induction k with
  | zero => intro _; rfl
  | succ k ih =>
    intro h
    rw [mnK, mnK, ih (fun t t0 t1 => h t t0 (by omega)), h k (by omega) (by omega)]
abbrev stI (i l r p : Int) : Int := ((33 * i + l + 1) * 6 + r) * 41 + p
/-- the price at a place of the model's table -/
noncomputable def pr4 (D : DP) (i l r p : Int) : Int := VV D (dN D - i).toNat (dB D l) r (cif (l < 0) 0 p)
def TBc (D : DP) (i c : Int) (f : FN) : Prop := ∀ l r p, -1 ≤ l → l < i → 0 ≤ r → r < 6 → 0 ≤ p → p < 41 → ((l + 1) * 6 + r) * 41 + p < c → f (stI i l r p) = pr4 D i l r p
def TB (D : DP) (i : Int) (f : FN) : Prop := ∀ l r p, -1 ≤ l → l < i → 0 ≤ r → r < 6 → 0 ≤ p → p < 41 → f (stI i l r p) = pr4 D i l r p
/-- what a choice costs -/
noncomputable def ovV (D : DP) (i l r p : Int) : Int → Int := optV D i (dB D l i) r (cif (l < 0) 0 p) (VV D (dN D - (i + 1)).toNat (dB D l) r (cif (l < 0) 0 p)) (VV D (dN D - (i + 1)).toNat (dB D i))
theorem pr4_ov {D : DP} {i l r p : Int} (hi : 0 ≤ i ∧ i < dN D) : pr4 D i l r p = mnK (ovV D i l r p) 7 := by
  unfold pr4 ovV
  have e : (dN D - i).toNat = (dN D - (i + 1)).toNat + 1 := by omega
  have e2 : dN D - (((dN D - (i + 1)).toNat : Int) + 1) = i := by omega
  rw [e, VV, e2]
theorem pay_ov {D : DP} {f : FN} {i l r p : Int} (h : kD D) (hi : 0 ≤ i ∧ i < dN D) (hl : -1 ≤ l ∧ l < i) (hr : 0 ≤ r ∧ r < 6) (hp : 0 ≤ p ∧ p < 41) (hT : TB D (i + 1) f) (to : Int) (hto : 0 ≤ to ∧ to ≤ 6) : payM D f i l r p to = ovV D i l r p to := by
  have e1 : f (((33 * (i + 1) + l + 1) * 6 + r) * 41 + p) = VV D (dN D - (i + 1)).toNat (dB D l) r (cif (l < 0) 0 p) := hT l r p hl.1 (by omega) hr.1 hr.2 hp.1 hp.2
  unfold payM ovV optV
  rw [e1]
  by_cases c6 : to = 6
  · rw [cif_t c6, cif_t c6]
  · rw [cif_f c6, cif_f c6]
    by_cases cf : to < r ∨ dR D ≤ to ∨ dX D to < begV D (dB D l i) r (cif (l < 0) 0 p) to + dW D i
    · rw [cif_t cf, cif_t cf]
    · rw [cif_f cf, cif_f cf]
      obtain ⟨h1, h2, h3, h4, h5, h6, h7, h8⟩ := h
      have hx := h6 to hto.1 (by omega)
      have hw := h3 i hi.1 hi.2
      have hb : 0 ≤ begV D (dB D l i) r (cif (l < 0) 0 p) to := by
        unfold begV
        have c1 : 0 ≤ cif (l < 0) 0 p := by
          by_cases q : l < 0
          · rw [cif_t q]; omega
          · rw [cif_f q]; omega
        have c2 : 0 ≤ cif (dB D l i) (dF D) 0 := by
          by_cases q : dB D l i
          · rw [cif_t q]; omega
          · rw [cif_f q]; omega
        by_cases q : to = r
        · rw [cif_t q]; omega
        · rw [cif_f q]; omega
      have e2 := hT i to (begV D (dB D l i) r (cif (l < 0) 0 p) to + dW D i) (by omega) (by omega) hto.1 (by omega) (by omega) (by omega)
      have e3 : pr4 D (i + 1) i to (begV D (dB D l i) r (cif (l < 0) 0 p) to + dW D i) = VV D (dN D - (i + 1)).toNat (dB D i) to (begV D (dB D l i) r (cif (l < 0) 0 p) to + dW D i) := by
        unfold pr4
        rw [cif_f (by omega)]
      rw [e3] at e2
      show _ + _ + f (stI (i + 1) i to (begV D (dB D l i) r (cif (l < 0) 0 p) to + dW D i)) = _
      rw [e2]
theorem ov_r {D : DP} {i l r p : Int} (h : kD D) (hi : 0 ≤ i ∧ i < dN D) (to : Int) : 0 ≤ ovV D i l r p to ∧ ovV D i l r p to ≤ 1000000000 := by
  have h' := h
  obtain ⟨h1, h2, h3, h4, h5, h6, h7, h8⟩ := h'
  have ho := h2 i hi.1 hi.2
  unfold ovV optV
  by_cases c6 : to = 6
  · rw [cif_t c6]
    have := VV_r h (dN D - (i + 1)).toNat (dB D l) r (cif (l < 0) 0 p) (by omega)
    omega
  · rw [cif_f c6]
    by_cases cf : to < r ∨ dR D ≤ to ∨ dX D to < begV D (dB D l i) r (cif (l < 0) 0 p) to + dW D i
    · rw [cif_t cf]; omega
    · rw [cif_f cf]
      have i2 := VV_r h (dN D - (i + 1)).toNat (dB D i) to (begV D (dB D l i) r (cif (l < 0) 0 p) to + dW D i) (by omega)
      have i3 := h4 i to (begV D (dB D l i) r (cif (l < 0) 0 p) to)
      have i4 : 0 ≤ cif (to = r ∧ dB D l i) (64 * dE D) 0 ∧ cif (to = r ∧ dB D l i) (64 * dE D) 0 ≤ 64000 := by
        by_cases c : to = r ∧ dB D l i
        · rw [cif_t c]; omega
        · rw [cif_f c]; omega
      omega
theorem mnK_r {D : DP} {i l r p : Int} (h : kD D) (hi : 0 ≤ i ∧ i < dN D) : ∀ (k : Nat), 0 ≤ mnK (ovV D i l r p) k ∧ mnK (ovV D i l r p) k ≤ 1000000000 := by
  intro k
  induction k with
  | zero => rw [mnK]; omega
  | succ k ih =>
    rw [mnK]
    have := ov_r (l := l) (r := r) (p := p) h hi k
    omega
theorem m_to_loop {X : AX} (d : Nat) (a : AC49) (mT : TyT) (mG : TyMG) (mR : TyMR) (mU : TyMU) (mP : TyMP) (mO : TyO) (ro po rw' pw f : FN) (s4 : Int × Int × Int × Int) (mN : TyMN) (t : AH) (an i l r p : Int) {Q : AQ} (hG : kG mG) (hR : kR mR) (hO : 0 ≤ mO.2 ∧ mO.2 ≤ 32) (ho : ∀ i, 0 ≤ i → i < mO.2 → 0 ≤ mO.1 i ∧ mO.1 i < mG.2.2.2) (han : an = 0 ∨ an = 1) (hw : ∀ i, 0 ≤ i → i < 32 → (0 ≤ rw' i ∧ rw' i ≤ 7) ∧ (0 ≤ pw i ∧ pw i ≤ 40)) (hi : 0 ≤ i ∧ i < mO.2) (hl : -1 ≤ l ∧ l < i) (hr : 0 ≤ r ∧ r < 6) (hp : 0 ≤ p ∧ p < 41) (hT : TB (DM mG mR mO.1 mO.2 rw' pw an) (i + 1) f)
    (hQ : ∀ v8 : AV, AW X (d + 5) 0 0 132 89 [rf 49, iv an, iv i, iv l, iv r, iv p, iv (pr4 (DM mG mR mO.1 mO.2 rw' pw an) i l r p), iv 7, v8] [] (CV a (MH mT mG mR mU mP mO (ro, po, rw', pw, f, s4) mN t)) Q) :
    ∀ (m k : Nat) (v8 : AV), k + m = 7 → AW X (d + 5) 0 0 132 64 [rf 49, iv an, iv i, iv l, iv r, iv p, iv (mnK (ovV (DM mG mR mO.1 mO.2 rw' pw an) i l r p) k), iv k, v8] [] (CV a (MH mT mG mR mU mP mO (ro, po, rw', pw, f, s4) mN t)) Q := by
  have hD := DM_k (rw' := rw') (pw := pw) (an := an) hG hR hO ho
  have hg := hG.1
  intro m
  induction m with
  | zero =>
    intro k v8 hk
    have e : k = 7 := by omega
    subst e
    have goal := hQ v8
    rw [pr4_ov hi] at goal
    refine aw_tree (I0_ok X _) [(false, 49), (true, 24)] [64, 89] rfl ?_
    dsimp only
    repeat' (first | refine And.intro ?_ ?_ | (refine aImp_e0 ?_; intro _) | (refine aImp_n0 ?_; intro _) | (refine aImp_i ?_; intro _))
    all_goals (try (first | omega | exact bI_01 _ | exact bI_lo _ | exact bI_hi _ | exact bI_hi' _ | exact trivial | exact Or.inl rfl | exact Or.inr rfl | (exfalso; omega)))
    exact goal
  | succ m ih =>
    intro k v8 hk
    have e1 := pay_ov (l := l) (r := r) (p := p) hD hi hl hr hp hT k (by omega)
    have r1 := mnK_r (l := l) (r := r) (p := p) hD hi k
    have r2 := ov_r (l := l) (r := r) (p := p) hD hi k
    refine aw_tree (I0_ok X _) [(false, 49), (true, 24)] [64, 89] rfl ?_
    dsimp only
    repeat' (first | refine And.intro ?_ ?_ | (refine aImp_e0 ?_; intro _) | (refine aImp_n0 ?_; intro _) | (refine aImp_i ?_; intro _))
    all_goals (try (first | omega | exact bI_01 _ | exact bI_lo _ | exact bI_hi _ | exact bI_hi' _ | exact trivial | exact Or.inl rfl | exact Or.inr rfl | (exfalso; omega)))
    refine aw_cf0 (m_pays _ a mT mG mR mU mP mO (ro, po, rw', pw, f, s4) mN t i l r p k an hl (by omega) hr (by omega) (by omega) han (fun j j0 j1 => by have := ho j j0 (by omega); omega) hG hR hw) rfl ?_
    dsimp only
    rw [e1]
    have goal := fun v => ih (k + 1) v (by omega)
    rw [mnK] at goal
    refine aw_tree (I0_ok X _) [(false, 49), (true, 24)] [64, 89] rfl ?_
    dsimp only
    repeat' (first | refine And.intro ?_ ?_ | (refine aImp_e0 ?_; intro _) | (refine aImp_n0 ?_; intro _) | (refine aImp_i ?_; intro _))
    all_goals (try (first | omega | exact bI_01 _ | exact bI_lo _ | exact bI_hi _ | exact bI_hi' _ | exact trivial | exact Or.inl rfl | exact Or.inr rfl | (exfalso; omega)))
    · next hge =>
      have := goal (iv (ovV (DM mG mR mO.1 mO.2 rw' pw an) i l r p k))
      rw [show min (mnK (ovV (DM mG mR mO.1 mO.2 rw' pw an) i l r p) k) (ovV (DM mG mR mO.1 mO.2 rw' pw an) i l r p k) = mnK (ovV (DM mG mR mO.1 mO.2 rw' pw an) i l r p) k from by omega] at this
      exact this
    · next hge =>
      have := goal (iv (ovV (DM mG mR mO.1 mO.2 rw' pw an) i l r p k))
      rw [show min (mnK (ovV (DM mG mR mO.1 mO.2 rw' pw an) i l r p) k) (ovV (DM mG mR mO.1 mO.2 rw' pw an) i l r p k) = ovV (DM mG mR mO.1 mO.2 rw' pw an) i l r p k from by omega] at this
      exact this
/-- one level of the table -/
theorem m_level {X : AX} (d : Nat) (a : AC49) (mT : TyT) (mG : TyMG) (mR : TyMR) (mU : TyMU) (mP : TyMP) (mO : TyO) (ro po rw' pw : FN) (s4 : Int × Int × Int × Int) (mN : TyMN) (t : AH) (an i : Int) {Q : AQ} (hG : kG mG) (hR : kR mR) (hO : 0 ≤ mO.2 ∧ mO.2 ≤ 32) (ho : ∀ i, 0 ≤ i → i < mO.2 → 0 ≤ mO.1 i ∧ mO.1 i < mG.2.2.2) (han : an = 0 ∨ an = 1) (hw : ∀ i, 0 ≤ i → i < 32 → (0 ≤ rw' i ∧ rw' i ≤ 7) ∧ (0 ≤ pw i ∧ pw i ≤ 40)) (hi : 0 ≤ i ∧ i ≤ mO.2)
    (hQ : ∀ (f : FN) (l r p : Int) (v6 v7 v8 : AV), (∀ j, i ≤ j → j ≤ mO.2 → TB (DM mG mR mO.1 mO.2 rw' pw an) j f) → AW X (d + 5) 0 0 132 37 [rf 49, iv an, iv (i + -1), iv l, iv r, iv p, v6, v7, v8] [] (CV a (MH mT mG mR mU mP mO (ro, po, rw', pw, f, s4) mN t)) Q) :
    ∀ (m : Nat) (l r p : Int) (f : FN) (v6 v7 v8 : AV), ((l + 1) * 6 + r) * 41 + p + m = (i + 1) * 246 → -1 ≤ l ∧ l < i → 0 ≤ r ∧ r < 6 → 0 ≤ p ∧ p < 41 → TBc (DM mG mR mO.1 mO.2 rw' pw an) i (((l + 1) * 6 + r) * 41 + p) f → (∀ j, i + 1 ≤ j → j ≤ mO.2 → TB (DM mG mR mO.1 mO.2 rw' pw an) j f) → AW X (d + 5) 0 0 132 51 [rf 49, iv an, iv i, iv l, iv r, iv p, v6, v7, v8] [] (CV a (MH mT mG mR mU mP mO (ro, po, rw', pw, f, s4) mN t)) Q := by
  intro m
  induction m using Nat.strongRecOn with
  | _ m ih =>
    intro l r p f v6 v7 v8 hm hl hr hp hc hT
    have hD := DM_k (rw' := rw') (pw := pw) (an := an) hG hR hO ho
    -- behind this place
    have hc' : TBc (DM mG mR mO.1 mO.2 rw' pw an) i (((l + 1) * 6 + r) * 41 + p + 1) (aUp f (stI i l r p) (pr4 (DM mG mR mO.1 mO.2 rw' pw an) i l r p)) := by
      intro l' r' p' h1 h2 h3 h4 h5 h6 h7
      by_cases e : stI i l' r' p' = stI i l r p
      · simp only [stI] at e
        have e1 : l' = l := by omega
        have e2 : r' = r := by omega
        have e3 : p' = p := by omega
        rw [e1, e2, e3, aUp_s]
      · rw [aUp_n _ _ e]
        simp only [stI] at e
        exact hc l' r' p' h1 h2 h3 h4 h5 h6 (by omega)
    have hT' : ∀ j, i + 1 ≤ j → j ≤ mO.2 → TB (DM mG mR mO.1 mO.2 rw' pw an) j (aUp f (stI i l r p) (pr4 (DM mG mR mO.1 mO.2 rw' pw an) i l r p)) := by
      intro j j0 j1 l' r' p' h1 h2 h3 h4 h5 h6
      rw [aUp_n _ _ (by simp only [stI]; omega)]
      exact hT j j0 j1 l' r' p' h1 h2 h3 h4 h5 h6
    have next : ∀ v6 v7 v8 : AV, AW X (d + 5) 0 0 132 51 [rf 49, iv an, iv i, iv l, iv r, iv (p + 1), v6, v7, v8] [] (CV a (MH mT mG mR mU mP mO (ro, po, rw', pw, aUp f (stI i l r p) (pr4 (DM mG mR mO.1 mO.2 rw' pw an) i l r p), s4) mN t)) Q := by
      intro v6 v7 v8
      by_cases hp1 : p + 1 < 41
      · refine ih (m - 1) (by omega) l r (p + 1) _ v6 v7 v8 (by omega) hl hr (by omega) ?_ hT'
        rw [show ((l + 1) * 6 + r) * 41 + (p + 1) = ((l + 1) * 6 + r) * 41 + p + 1 from by omega]
        exact hc'
      · have ep : p = 40 := by omega
        subst ep
        have eEnd : ∀ v4 v5 : Int, l + 1 = i → r = 5 → AW X (d + 5) 0 0 132 41 [rf 49, iv an, iv i, iv (l + 1), iv v4, iv v5, v6, v7, v8] [] (CV a (MH mT mG mR mU mP mO (ro, po, rw', pw, aUp f (stI i l r 40) (pr4 (DM mG mR mO.1 mO.2 rw' pw an) i l r 40), s4) mN t)) Q := by
          intro v4 v5 hl1 hr5
          refine aw_tree (I0_ok X _) [(false, 49), (true, 24)] [51, 46, 41, 37] rfl ?_
          dsimp only
          repeat' (first | refine And.intro ?_ ?_ | (refine aImp_e0 ?_; intro _) | (refine aImp_n0 ?_; intro _) | (refine aImp_i ?_; intro _))
          all_goals (try (first | omega | exact bI_01 _ | exact bI_lo _ | exact bI_hi _ | exact bI_hi' _ | exact trivial | exact Or.inl rfl | exact Or.inr rfl | (exfalso; omega)))
          refine hQ _ _ _ _ v6 v7 v8 (fun j j0 j1 => ?_)
          by_cases ej : j = i
          · subst ej
            intro l' r' p' h1 h2 h3 h4 h5 h6
            exact hc' l' r' p' h1 h2 h3 h4 h5 h6 (by omega)
          · exact hT' j (by omega) j1
        have eNext : ∀ v4 v5 : Int, l + 1 < i → r = 5 → AW X (d + 5) 0 0 132 41 [rf 49, iv an, iv i, iv (l + 1), iv v4, iv v5, v6, v7, v8] [] (CV a (MH mT mG mR mU mP mO (ro, po, rw', pw, aUp f (stI i l r 40) (pr4 (DM mG mR mO.1 mO.2 rw' pw an) i l r 40), s4) mN t)) Q := by
          intro v4 v5 hl1 hr5
          refine aw_tree (I0_ok X _) [(false, 49), (true, 24)] [51, 46, 41, 37] rfl ?_
          dsimp only
          repeat' (first | refine And.intro ?_ ?_ | (refine aImp_e0 ?_; intro _) | (refine aImp_n0 ?_; intro _) | (refine aImp_i ?_; intro _))
          all_goals (try (first | omega | exact bI_01 _ | exact bI_lo _ | exact bI_hi _ | exact bI_hi' _ | exact trivial | exact Or.inl rfl | exact Or.inr rfl | (exfalso; omega)))
          refine aw_tree (I0_ok X _) [(false, 49), (true, 24)] [51, 46, 41, 37] rfl ?_
          dsimp only
          repeat' (first | refine And.intro ?_ ?_ | (refine aImp_e0 ?_; intro _) | (refine aImp_n0 ?_; intro _) | (refine aImp_i ?_; intro _))
          all_goals (try (first | omega | exact bI_01 _ | exact bI_lo _ | exact bI_hi _ | exact bI_hi' _ | exact trivial | exact Or.inl rfl | exact Or.inr rfl | (exfalso; omega)))
          refine ih (m - 1) (by omega) (l + 1) 0 0 _ v6 v7 v8 (by omega) (by omega) (by omega) (by omega) ?_ hT'
          rw [show ((l + 1 + 1) * 6 + 0) * 41 + 0 = ((l + 1) * 6 + r) * 41 + 40 + 1 from by omega]
          exact hc'
        refine aw_tree (I0_ok X _) [(false, 49), (true, 24)] [51, 46, 41, 37, 64] rfl ?_
        dsimp only
        repeat' (first | refine And.intro ?_ ?_ | (refine aImp_e0 ?_; intro _) | (refine aImp_n0 ?_; intro _) | (refine aImp_i ?_; intro _))
        all_goals (try (first | omega | exact bI_01 _ | exact bI_lo _ | exact bI_hi _ | exact bI_hi' _ | exact trivial | exact Or.inl rfl | exact Or.inr rfl | (exfalso; omega)))
        refine aw_tree (I0_ok X _) [(false, 49), (true, 24)] [51, 46, 41, 37] rfl ?_
        dsimp only
        repeat' (first | refine And.intro ?_ ?_ | (refine aImp_e0 ?_; intro _) | (refine aImp_n0 ?_; intro _) | (refine aImp_i ?_; intro _))
        all_goals (try (first | omega | exact bI_01 _ | exact bI_lo _ | exact bI_hi _ | exact bI_hi' _ | exact trivial | exact Or.inl rfl | exact Or.inr rfl | (exfalso; omega)))
        · rcases Int.lt_or_le (l + 1) i with q | q
          · exact eNext _ _ q (by omega)
          · exact eEnd _ _ (by omega) (by omega)
        · refine ih (m - 1) (by omega) l (r + 1) 0 _ v6 v7 v8 (by omega) hl (by omega) (by omega) ?_ hT'
          rw [show ((l + 1) * 6 + (r + 1)) * 41 + 0 = ((l + 1) * 6 + r) * 41 + 40 + 1 from by omega]
          exact hc'
    have put : ∀ v7 v8 : AV, AW X (d + 5) 0 0 132 89 [rf 49, iv an, iv i, iv l, iv r, iv p, iv (pr4 (DM mG mR mO.1 mO.2 rw' pw an) i l r p), v7, v8] [] (CV a (MH mT mG mR mU mP mO (ro, po, rw', pw, f, s4) mN t)) Q := by
      intro v7 v8
      refine aw_tree (I0_ok X _) [(false, 49), (true, 24)] [51] rfl ?_
      dsimp only
      repeat' (first | refine And.intro ?_ ?_ | (refine aImp_e0 ?_; intro _) | (refine aImp_n0 ?_; intro _) | (refine aImp_i ?_; intro _))
      all_goals (try (first | omega | exact bI_01 _ | exact bI_lo _ | exact bI_hi _ | exact bI_hi' _ | exact trivial | exact Or.inl rfl | exact Or.inr rfl | (exfalso; omega)))
      exact next _ v7 v8
    by_cases hin : i < mO.2
    · refine aw_tree (I0_ok X _) [(false, 49), (true, 24)] [46, 64] rfl ?_
      dsimp only
      repeat' (first | refine And.intro ?_ ?_ | (refine aImp_e0 ?_; intro _) | (refine aImp_n0 ?_; intro _) | (refine aImp_i ?_; intro _))
      all_goals (try (first | omega | exact bI_01 _ | exact bI_lo _ | exact bI_hi _ | exact bI_hi' _ | exact trivial | exact Or.inl rfl | exact Or.inr rfl | (exfalso; omega)))
      exact m_to_loop d a mT mG mR mU mP mO ro po rw' pw f s4 mN t an i l r p hG hR hO ho han hw ⟨hi.1, hin⟩ hl hr hp (hT (i + 1) (by omega) (by omega)) (fun v8 => put (iv 7) v8) 7 0 v8 rfl
    · have e0 : pr4 (DM mG mR mO.1 mO.2 rw' pw an) i l r p = 0 := by
        unfold pr4
        have : (dN (DM mG mR mO.1 mO.2 rw' pw an) - i).toNat = 0 := by
          show (mO.2 - i).toNat = 0
          omega
        rw [this, VV]
      have goal := put (iv 0) v8
      rw [e0] at goal
      refine aw_tree (I0_ok X _) [(false, 49), (true, 24)] [46, 89] rfl ?_
      dsimp only
      repeat' (first | refine And.intro ?_ ?_ | (refine aImp_e0 ?_; intro _) | (refine aImp_n0 ?_; intro _) | (refine aImp_i ?_; intro _))
      all_goals (try (first | omega | exact bI_01 _ | exact bI_lo _ | exact bI_hi _ | exact bI_hi' _ | exact trivial | exact Or.inl rfl | exact Or.inr rfl | (exfalso; omega)))
      exact goal
theorem m_table {X : AX} (d : Nat) (a : AC49) (mT : TyT) (mG : TyMG) (mR : TyMR) (mU : TyMU) (mP : TyMP) (mO : TyO) (ro po rw' pw : FN) (s4 : Int × Int × Int × Int) (mN : TyMN) (t : AH) (an : Int) {Q : AQ} (hG : kG mG) (hR : kR mR) (hO : 0 ≤ mO.2 ∧ mO.2 ≤ 32) (ho : ∀ i, 0 ≤ i → i < mO.2 → 0 ≤ mO.1 i ∧ mO.1 i < mG.2.2.2) (han : an = 0 ∨ an = 1) (hw : ∀ i, 0 ≤ i → i < 32 → (0 ≤ rw' i ∧ rw' i ≤ 7) ∧ (0 ≤ pw i ∧ pw i ≤ 40))
    (hQ : ∀ (f : FN) (i : Int) (v3 v4 v5 v6 v7 v8 : AV), aIsLong v3 = false → aIsLong v4 = false → aIsLong v5 = false → (∀ j, 0 ≤ j → j ≤ mO.2 → TB (DM mG mR mO.1 mO.2 rw' pw an) j f) → AW X (d + 5) 0 0 132 106 [rf 49, iv an, iv i, v3, v4, v5, v6, v7, v8] [] (CV a (MH mT mG mR mU mP mO (ro, po, rw', pw, f, s4) mN t)) Q) :
    ∀ (m : Nat) (i : Int) (f : FN) (v3 v4 v5 v6 v7 v8 : AV), i + 1 = m → i ≤ mO.2 → aIsLong v3 = false → aIsLong v4 = false → aIsLong v5 = false → (∀ j, i + 1 ≤ j → j ≤ mO.2 → TB (DM mG mR mO.1 mO.2 rw' pw an) j f) → AW X (d + 5) 0 0 132 37 [rf 49, iv an, iv i, v3, v4, v5, v6, v7, v8] [] (CV a (MH mT mG mR mU mP mO (ro, po, rw', pw, f, s4) mN t)) Q := by
  intro m
  induction m with
  | zero =>
    intro i f v3 v4 v5 v6 v7 v8 hm hi l3 l4 l5 hT
    refine aw_tree (I0_ok X _) [(false, 49), (true, 24)] [41, 106] rfl ?_
    dsimp only
    repeat' (first | refine And.intro ?_ ?_ | (refine aImp_e0 ?_; intro _) | (refine aImp_n0 ?_; intro _) | (refine aImp_i ?_; intro _))
    all_goals (try (first | omega | exact bI_01 _ | exact bI_lo _ | exact bI_hi _ | exact bI_hi' _ | exact trivial | exact Or.inl rfl | exact Or.inr rfl | (exfalso; omega)))
    exact hQ f i v3 v4 v5 v6 v7 v8 l3 l4 l5 (fun j j0 j1 => hT j (by omega) j1)
  | succ m ih =>
    intro i f v3 v4 v5 v6 v7 v8 hm hi l3 l4 l5 hT
    refine aw_tree (I0_ok X _) [(false, 49), (true, 24)] [41, 106] rfl ?_
    dsimp only
    repeat' (first | refine And.intro ?_ ?_ | (refine aImp_e0 ?_; intro _) | (refine aImp_n0 ?_; intro _) | (refine aImp_i ?_; intro _))
    all_goals (try (first | omega | exact bI_01 _ | exact bI_lo _ | exact bI_hi _ | exact bI_hi' _ | exact trivial | exact Or.inl rfl | exact Or.inr rfl | (exfalso; omega)))
    refine aw_tree (I0_ok X _) [(false, 49), (true, 24)] [46, 37] rfl ?_
    dsimp only
    repeat' (first | refine And.intro ?_ ?_ | (refine aImp_e0 ?_; intro _) | (refine aImp_n0 ?_; intro _) | (refine aImp_i ?_; intro _))
    all_goals (try (first | omega | exact bI_01 _ | exact bI_lo _ | exact bI_hi _ | exact bI_hi' _ | exact trivial | exact Or.inl rfl | exact Or.inr rfl | (exfalso; omega)))
    refine aw_tree (I0_ok X _) [(false, 49), (true, 24)] [51, 41] rfl ?_
    dsimp only
    repeat' (first | refine And.intro ?_ ?_ | (refine aImp_e0 ?_; intro _) | (refine aImp_n0 ?_; intro _) | (refine aImp_i ?_; intro _))
    all_goals (try (first | omega | exact bI_01 _ | exact bI_lo _ | exact bI_hi _ | exact bI_hi' _ | exact trivial | exact Or.inl rfl | exact Or.inr rfl | (exfalso; omega)))
    refine m_level d a mT mG mR mU mP mO ro po rw' pw s4 mN t an i hG hR hO ho han hw (by omega) (fun f' l r p w6 w7 w8 hT' => ?_) ((i + 1) * 246).toNat (-1) 0 0 f v6 v7 v8 (by omega) (by omega) (by omega) (by omega) (fun l r p h1 h2 h3 h4 h5 h6 h7 => by omega) hT
    exact ih (i + -1) f' (iv l) (iv r) (iv p) w6 w7 w8 (by omega) (by omega) rfl rfl rfl (fun j j0 j1 => hT' j (by omega) j1)

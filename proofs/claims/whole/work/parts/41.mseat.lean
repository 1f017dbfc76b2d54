/-! ===== the walk ===== -/
noncomputable def scF (f : Int → Int) (v : Int) : Nat → Int → Int
  | 0, t => t
  | m + 1, t => cif (f t = v) t (scF f v m (t + 1))
noncomputable def choD (D : DP) (i l r p : Int) : Int := scF (ovV D i l r p) (pr4 D i l r p) 6 0
theorem scF_ok {f : Int → Int} {v : Int} : ∀ (m : Nat) (t : Int), (∃ s, t ≤ s ∧ s ≤ t + m ∧ f s = v) → t ≤ scF f v m t ∧ scF f v m t ≤ t + m ∧ f (scF f v m t) = v ∧ ∀ s, t ≤ s → s < scF f v m t → ¬ f s = v := by
  intro m
  induction m with
  | zero =>
    intro t ⟨s, s0, s1, s2⟩
    rw [scF]
    have e : s = t := by omega
    subst e
    exact ⟨by omega, by omega, s2, fun s a b => by omega⟩
  | succ m ih =>
    intro t ⟨s, s0, s1, s2⟩
    rw [scF]
    by_cases h : f t = v
    · rw [cif_t h]
      exact ⟨by omega, by omega, h, fun s a b => by omega⟩
    · rw [cif_f h]
      have hs : s ≠ t := fun e => h (e ▸ s2)
      obtain ⟨a1, a2, a3, a4⟩ := ih (t + 1) ⟨s, by omega, by omega, s2⟩
      refine ⟨by omega, by omega, a3, fun s' b1 b2 => ?_⟩
      by_cases e : s' = t
      · rw [e]; exact h
      · exact a4 s' (by omega) b2
theorem cho_ok {D : DP} (h : kD D) {i l r p : Int} (hi : 0 ≤ i ∧ i < dN D) : (0 ≤ choD D i l r p ∧ choD D i l r p ≤ 6) ∧ ovV D i l r p (choD D i l r p) = pr4 D i l r p ∧ (∀ s, 0 ≤ s → s < choD D i l r p → ¬ ovV D i l r p s = pr4 D i l r p) := by
  have hv := VV_r h (dN D - i).toNat (dB D l) r (cif (l < 0) 0 p) (by omega)
  have hn := h.1
  have he : ∃ s, (0 : Int) ≤ s ∧ s ≤ 0 + (6 : Nat) ∧ ovV D i l r p s = pr4 D i l r p := by
    rw [pr4_ov hi]
    rcases mnK_ex (f := ovV D i l r p) 7 with q | ⟨t, t0, t1, t2⟩
    · have e := pr4_ov (l := l) (r := r) (p := p) hi
      unfold pr4 at e
      rw [q] at e
      omega
    · exact ⟨t, t0, by omega, t2.symm⟩
  obtain ⟨a1, a2, a3, a4⟩ := scF_ok 6 0 he
  exact ⟨⟨a1, by unfold choD; omega⟩, a3, a4⟩
/-- who sits, sits well -/
theorem cho_sit {D : DP} (h : kD D) {i l r p : Int} (hi : 0 ≤ i ∧ i < dN D) (hc : ¬ choD D i l r p = 6) : r ≤ choD D i l r p ∧ choD D i l r p < dR D ∧ begV D (dB D l i) r (cif (l < 0) 0 p) (choD D i l r p) + dW D i ≤ dX D (choD D i l r p) := by
  obtain ⟨a1, a2, a3⟩ := cho_ok h (l := l) (r := r) (p := p) hi
  have hv := VV_r h (dN D - i).toNat (dB D l) r (cif (l < 0) 0 p) (by omega)
  have hn := h.1
  unfold ovV optV at a2
  rw [cif_f hc] at a2
  by_cases cf : choD D i l r p < r ∨ dR D ≤ choD D i l r p ∨ dX D (choD D i l r p) < begV D (dB D l i) r (cif (l < 0) 0 p) (choD D i l r p) + dW D i
  · rw [cif_t cf] at a2
    unfold pr4 at a2
    omega
  · omega
theorem begV_nn {D : DP} (h : kD D) {l i r p to : Int} (hp : 0 ≤ p) : 0 ≤ begV D (dB D l i) r (cif (l < 0) 0 p) to := by
  have h7 := h.2.2.2.2.2.2.1
  unfold begV
  have c1 : 0 ≤ cif (l < 0) 0 p := by
    by_cases q : l < 0
    · rw [cif_t q]; omega
    · rw [cif_f q]; omega
  have c2 : 0 ≤ cif (dB D l i) (dF D) 0 := by
    by_cases q : dB D l i
    · rw [cif_t q]; omega
    · rw [cif_f q]; omega
  by_cases q : to = r
  · rw [cif_t q]; omega
  · rw [cif_f q]; omega
/-- last, row, place before the i-th -/
noncomputable def wst (D : DP) : Nat → Int × Int × Int
  | 0 => (-1, 0, 0)
  | i + 1 => cif (choD D i (wst D i).1 (wst D i).2.1 (wst D i).2.2 = 6) (wst D i) (i, choD D i (wst D i).1 (wst D i).2.1 (wst D i).2.2, begV D (dB D (wst D i).1 i) (wst D i).2.1 (cif ((wst D i).1 < 0) 0 (wst D i).2.2) (choD D i (wst D i).1 (wst D i).2.1 (wst D i).2.2) + dW D i)
/-- the row of the i-th (6: out), the place -/
noncomputable def roV (D : DP) (i : Nat) : Int := choD D i (wst D i).1 (wst D i).2.1 (wst D i).2.2
noncomputable def plV (D : DP) (i : Nat) : Int := begV D (dB D (wst D i).1 i) (wst D i).2.1 (cif ((wst D i).1 < 0) 0 (wst D i).2.2) (roV D i)
theorem wst_out {D : DP} {i : Nat} (h : roV D i = 6) : wst D (i + 1) = wst D i := by rw [wst]; exact cif_t h _ _
theorem wst_sit {D : DP} {i : Nat} (h : ¬ roV D i = 6) : wst D (i + 1) = ((i : Int), roV D i, plV D i + dW D i) := by rw [wst]; exact cif_f h _ _
theorem wst_ok {D : DP} (h : kD D) : ∀ (i : Nat), (i : Int) ≤ dN D → (-1 ≤ (wst D i).1 ∧ (wst D i).1 < i) ∧ (0 ≤ (wst D i).2.1 ∧ (wst D i).2.1 < 6) ∧ (0 ≤ (wst D i).2.2 ∧ (wst D i).2.2 ≤ 40) ∧ ((wst D i).1 < 0 → (wst D i).2.1 = 0 ∧ (wst D i).2.2 = 0) := by
  intro i
  induction i with
  | zero => intro _; rw [wst]; exact ⟨by decide, by decide, by decide, fun _ => by decide⟩
  | succ i ih =>
    intro hi
    obtain ⟨b1, b2, b3, b4⟩ := ih (by omega)
    by_cases hc : roV D i = 6
    · rw [wst_out hc]
      exact ⟨by omega, b2, b3, b4⟩
    · rw [wst_sit hc]
      obtain ⟨c1, c2, c3⟩ := cho_sit h (l := (wst D i).1) (r := (wst D i).2.1) (p := (wst D i).2.2) (i := i) (by omega) hc
      have hb := begV_nn h (l := (wst D i).1) (i := i) (r := (wst D i).2.1) (p := (wst D i).2.2) (to := roV D i) b3.1
      have h3 := h.2.2.1 i (by omega) (by omega)
      have h5 := h.2.2.2.2.1
      have hx := h.2.2.2.2.2.1 (roV D i) (by unfold roV; omega) c2
      unfold plV
      refine ⟨by dsimp only; omega, ?_, ?_, ?_⟩
      · dsimp only
        have : dR D ≤ 6 := h5.2
        unfold roV at *
        omega
      · dsimp only
        unfold roV at *
        omega
      · dsimp only
        intro hneg
        omega
noncomputable def roA (D : DP) (o : FN) : Nat → FN → FN
  | 0, f => f
  | i + 1, f => aUp (roA D o i f) (o i) (roV D i)
noncomputable def poA (D : DP) (o : FN) : Nat → FN → FN
  | 0, f => f
  | i + 1, f => cif (roV D i = 6) (poA D o i f) (aUp (poA D o i f) (o i) (plV D i))
def smN (g : Int → Int) : Nat → Int
  | 0 => 0
  | k + 1 => smN g k + g k
theorem m_was_loop {X : AX} (d : Nat) (a : AC49) (mT : TyT) (mG : TyMG) (mR : TyMR) (mU : TyMU) (mP : TyMP) (mO : TyO) (ro po rw0 pw0 f : FN) (sd rt mt gt : Int) (mN : TyMN) (t : AH) (an : Int) {Q : AQ} (hsd : sd = 0 ∨ sd = 1) (hgt : 0 ≤ gt ∧ gt ≤ 32)
    (hQ : AW X (d + 5) 0 0 132 34 [rf 49, iv an, iv 32, jk, jk, jk, jk, jk, jk] [] (CV a (MH mT mG mR mU mP mO (ro, po, cpy rw0 (fun g => cif (sd = 1 ∧ g < gt) (ro g) 6) 32, cpy pw0 po 32, f, sd, rt, mt, gt) mN t)) Q) :
    ∀ (m k : Nat), k + m = 32 → AW X (d + 5) 0 0 132 4 [rf 49, iv an, iv k, jk, jk, jk, jk, jk, jk] [] (CV a (MH mT mG mR mU mP mO (ro, po, cpy rw0 (fun g => cif (sd = 1 ∧ g < gt) (ro g) 6) k, cpy pw0 po k, f, sd, rt, mt, gt) mN t)) Q := by
  intro m
  induction m with
  | zero =>
    intro k hk
    have e : k = 32 := by omega
    subst e
    refine aw_tree (I0_ok X _) [(false, 49), (true, 24)] [4, 34] rfl ?_
    dsimp only
    repeat' (first | refine And.intro ?_ ?_ | (refine aImp_e0 ?_; intro _) | (refine aImp_n0 ?_; intro _) | (refine aImp_i ?_; intro _))
    all_goals (try (first | omega | exact bI_01 _ | exact bI_lo _ | exact bI_hi _ | exact bI_hi' _ | exact trivial | exact Or.inl rfl | exact Or.inr rfl | (exfalso; omega)))
    exact hQ
  | succ m ih =>
    intro k hk
    have goal := ih (k + 1) (by omega)
    rw [cpy] at goal
    refine aw_tree (I0_ok X _) [(false, 49), (true, 24)] [4, 34] rfl ?_
    dsimp only
    repeat' (first | refine And.intro ?_ ?_ | (refine aImp_e0 ?_; intro _) | (refine aImp_n0 ?_; intro _) | (refine aImp_i ?_; intro _))
    all_goals (try (first | omega | exact bI_01 _ | exact bI_lo _ | exact bI_hi _ | exact bI_hi' _ | exact trivial | exact Or.inl rfl | exact Or.inr rfl | (exfalso; omega)))
    · rw [cif_f (fun q => by omega)] at goal
      exact goal
    · rw [cif_f (fun q => by omega)] at goal
      exact goal
    · rw [cif_t (by omega)] at goal
      exact goal
theorem m_seven_loop {X : AX} (d : Nat) (a : AC49) (mT : TyT) (mG : TyMG) (mR : TyMR) (mU : TyMU) (mP : TyMP) (mO : TyO) (ro po rw' pw f : FN) (s4 : Int × Int × Int × Int) (mN : TyMN) (t : AH) (an : Int) (v6 v7 v8 : AV) {Q : AQ}
    (hQ : AW X (d + 5) 0 0 132 124 [rf 49, iv an, iv (-1), iv 0, iv 0, iv 32, v6, v7, v8] [] (CV a (MH mT mG mR mU mP mO (fil ro 7 32, po, rw', pw, f, s4) mN t)) Q) :
    ∀ (m k : Nat), k + m = 32 → AW X (d + 5) 0 0 132 114 [rf 49, iv an, iv (-1), iv 0, iv 0, iv k, v6, v7, v8] [] (CV a (MH mT mG mR mU mP mO (fil ro 7 k, po, rw', pw, f, s4) mN t)) Q := by
  intro m
  induction m with
  | zero =>
    intro k hk
    have e : k = 32 := by omega
    subst e
    refine aw_tree (I0_ok X _) [(false, 49), (true, 24)] [114, 124] rfl ?_
    dsimp only
    repeat' (first | refine And.intro ?_ ?_ | (refine aImp_e0 ?_; intro _) | (refine aImp_n0 ?_; intro _) | (refine aImp_i ?_; intro _))
    all_goals (try (first | omega | exact bI_01 _ | exact bI_lo _ | exact bI_hi _ | exact bI_hi' _ | exact trivial | exact Or.inl rfl | exact Or.inr rfl | (exfalso; omega)))
    exact hQ
  | succ m ih =>
    intro k hk
    refine aw_tree (I0_ok X _) [(false, 49), (true, 24)] [114, 124] rfl ?_
    dsimp only
    repeat' (first | refine And.intro ?_ ?_ | (refine aImp_e0 ?_; intro _) | (refine aImp_n0 ?_; intro _) | (refine aImp_i ?_; intro _))
    all_goals (try (first | omega | exact bI_01 _ | exact bI_lo _ | exact bI_hi _ | exact bI_hi' _ | exact trivial | exact Or.inl rfl | exact Or.inr rfl | (exfalso; omega)))
    exact ih (k + 1) (by omega)

theorem m_moved_loop {X : AX} (d : Nat) (a : AC49) (mT : TyT) (mG : TyMG) (mR : TyMR) (mU : TyMU) (mP : TyMP) (mO : TyO) (ro po rw' pw f : FN) (sd rt gt : Int) (mN : TyMN) (t : AH) (an : Int) {Q : AQ} (hG : kG mG) (hR : kR mR) (hO : 0 ≤ mO.2 ∧ mO.2 ≤ 32) (ho : ∀ i, 0 ≤ i → i < mO.2 → 0 ≤ mO.1 i ∧ mO.1 i < mG.2.2.2) (hro : ∀ k, 0 ≤ ro k ∧ ro k ≤ 7) (hpo : ∀ k, 0 ≤ po k ∧ po k ≤ 40) (hw : ∀ i, 0 ≤ i → i < 32 → (0 ≤ rw' i ∧ rw' i ≤ 7) ∧ (0 ≤ pw i ∧ pw i ≤ 40)) (hf : 0 ≤ f (((33 * 0 + -1 + 1) * 6 + 0) * 41 + 0) ∧ f (((33 * 0 + -1 + 1) * 6 + 0) * 41 + 0) ≤ 100000000)
    (hQ : Q (some (iv (Int.tdiv (f (((33 * 0 + -1 + 1) * 6 + 0) * 41 + 0)) 64))) (CV a (MH mT mG mR mU mP mO (ro, po, rw', pw, f, 1, mR.2.2.2.1, smN (fun i => mvM rw' pw 1 (mO.1 i) (ro (mO.1 i)) (po (mO.1 i))) mO.2.toNat, mG.2.2.2) mN t))) :
    ∀ (m k : Nat) (v2 v3 v4 v6 v7 v8 : AV), aIsLong v4 = false → k + m = mO.2.toNat → AW X (d + 5) 0 0 132 201 [rf 49, iv an, v2, v3, v4, iv k, v6, v7, v8] [] (CV a (MH mT mG mR mU mP mO (ro, po, rw', pw, f, sd, rt, smN (fun i => mvM rw' pw 1 (mO.1 i) (ro (mO.1 i)) (po (mO.1 i))) k, gt) mN t)) Q := by
  have hg := hG.1
  intro m
  induction m with
  | zero =>
    intro k v2 v3 v4 v6 v7 v8 hv4 hk
    have e : k = mO.2.toNat := by omega
    subst e
    refine aw_tree (I0_ok X _) [(false, 49), (true, 24)] [201] rfl ?_
    dsimp only
    repeat' (first | refine And.intro ?_ ?_ | (refine aImp_e0 ?_; intro _) | (refine aImp_n0 ?_; intro _) | (refine aImp_i ?_; intro _))
    all_goals (try (first | omega | exact bI_01 _ | exact bI_lo _ | exact bI_hi _ | exact bI_hi' _ | exact trivial | exact Or.inl rfl | exact Or.inr rfl | (exfalso; omega)))
    exact hQ
  | succ m ih =>
    intro k v2 v3 v4 v6 v7 v8 hv4 hk
    have hok := ho k (by omega) (by omega)
    have r1 := hro (mO.1 k)
    have r2 := hpo (mO.1 k)
    refine aw_tree (I0_ok X _) [(false, 49), (true, 24)] [201] rfl ?_
    dsimp only
    repeat' (first | refine And.intro ?_ ?_ | (refine aImp_e0 ?_; intro _) | (refine aImp_n0 ?_; intro _) | (refine aImp_i ?_; intro _))
    all_goals (try (first | omega | exact bI_01 _ | exact bI_lo _ | exact bI_hi _ | exact bI_hi' _ | exact trivial | exact Or.inl rfl | exact Or.inr rfl | (exfalso; omega)))
    refine aw_cf0 (m_moves _ a mT mG mR mU mP mO (ro, po, rw', pw, f, sd, rt, smN (fun i => mvM rw' pw 1 (mO.1 i) (ro (mO.1 i)) (po (mO.1 i))) k, gt) mN t (mO.1 k) (ro (mO.1 k)) (po (mO.1 k)) 1 (by omega) (by unfold inR; omega) (by unfold inR; omega) (Or.inr rfl) hw) rfl ?_
    have goal := ih (k + 1) v2 v3 v4 v6 v7 v8 hv4 (by omega)
    rw [smN] at goal
    rcases v4 with z | z | z | z
    · refine aw_tree (I0_ok X _) [(false, 49), (true, 24)] [201] rfl ?_
      exact goal
    · cases hv4
    · refine aw_tree (I0_ok X _) [(false, 49), (true, 24)] [201] rfl ?_
      exact goal
    · refine aw_tree (I0_ok X _) [(false, 49), (true, 24)] [201] rfl ?_
      exact goal
/-- the seating ahead, as the model keeps it -/
noncomputable def rwM (mS : TyMS) : FN := cpy mS.2.2.1 (fun g => cif (mS.2.2.2.2.2.1 = 1 ∧ g < mS.2.2.2.2.2.2.2.2) (mS.1 g) 6) 32
noncomputable def pwM (mS : TyMS) : FN := cpy mS.2.2.2.1 mS.2.1 32
def kS (mS : TyMS) : Prop := (∀ k, 0 ≤ mS.1 k ∧ mS.1 k ≤ 7) ∧ (∀ k, 0 ≤ mS.2.1 k ∧ mS.2.1 k ≤ 40) ∧ (mS.2.2.2.2.2.1 = 0 ∨ mS.2.2.2.2.2.1 = 1) ∧ (0 ≤ mS.2.2.2.2.2.2.2.2 ∧ mS.2.2.2.2.2.2.2.2 ≤ 32)
theorem rwM_r {mS : TyMS} (h : kS mS) : ∀ i, 0 ≤ i → i < 32 → (0 ≤ rwM mS i ∧ rwM mS i ≤ 7) ∧ (0 ≤ pwM mS i ∧ pwM mS i ≤ 40) := by
  intro i i0 i1
  unfold rwM pwM
  rw [cpy_lt 32 i i0 i1, cpy_lt 32 i i0 i1]
  have := h.1 i
  have := h.2.1 i
  refine ⟨?_, by omega⟩
  by_cases c : mS.2.2.2.2.2.1 = 1 ∧ i < mS.2.2.2.2.2.2.2.2
  · rw [cif_t c]; omega
  · rw [cif_f c]; omega
theorem m_seat {X : AX} (d : Nat) (a : AC49) (mT : TyT) (mG : TyMG) (mR : TyMR) (mU : TyMU) (mP : TyMP) (mO : TyO) (mS : TyMS) (mN : TyMN) (t : AH) (an : Int) {Q : AQ} (hG : kG mG) (hU : kU mU) (hR : kR mR) (hS : kS mS) (han : an = 0 ∨ an = 1)
    (hQ : ∀ (f : FN) (o : TyO) (D : DP), o = ordM mG mU mO → D = DM mG mR o.1 o.2 (rwM mS) (pwM mS) an → Q (some (iv (Int.tdiv (pr4 D 0 (-1) 0 0) 64))) (CV a (MH mT mG mR mU mP o (roA D o.1 o.2.toNat (fil mS.1 7 32), poA D o.1 o.2.toNat mS.2.1, rwM mS, pwM mS, f, 1, mR.2.2.2.1, smN (fun i => mvM (rwM mS) (pwM mS) 1 (o.1 i) (roA D o.1 o.2.toNat (fil mS.1 7 32) (o.1 i)) (poA D o.1 o.2.toNat mS.2.1 (o.1 i))) o.2.toNat, mG.2.2.2) mN t))) :
    AW X (d + 5) 0 0 132 0 (aEntry 132 [rf 49, iv an]) [] (CV a (MH mT mG mR mU mP mO mS mN t)) Q := by
  obtain ⟨ro, po, rw0, pw0, f0, sd, rt, mt, gt⟩ := mS
  obtain ⟨s1, s2, s3, s4⟩ := hS
  have hS' : kS (ro, po, rw0, pw0, f0, sd, rt, mt, gt) := ⟨s1, s2, s3, s4⟩
  dsimp only at s1 s2 s3 s4
  obtain ⟨ho0, hle, _⟩ := ordM_ok (mG := mG) (mU := mU) (mO := mO) hG
  have hg := hG.1
  have hOk : 0 ≤ (ordM mG mU mO).2 ∧ (ordM mG mU mO).2 ≤ 32 := ⟨ho0.1, by omega⟩
  have hoO : ∀ i, 0 ≤ i → i < (ordM mG mU mO).2 → 0 ≤ (ordM mG mU mO).1 i ∧ (ordM mG mU mO).1 i < mG.2.2.2 := fun i i0 i1 => (ho0.2.2.1 i i0 i1).1
  have hw := rwM_r hS'
  refine aw_tree (I0_ok X _) [(false, 49), (true, 24)] [4] rfl ?_
  refine aw_cf0 (m_orders _ a mT mG mR mU mP mO (ro, po, rw0, pw0, f0, sd, rt, mt, gt) mN t hG hU) rfl ?_
  have hQ' := fun f => hQ f (ordM mG mU mO) _ rfl rfl
  generalize ordM mG mU mO = o at *
  have hD := DM_k (rw' := rwM (ro, po, rw0, pw0, f0, sd, rt, mt, gt)) (pw := pwM (ro, po, rw0, pw0, f0, sd, rt, mt, gt)) (an := an) hG hR hOk hoO
  refine aw_tree (I0_ok X _) [(false, 49), (true, 24)] [4] rfl ?_
  refine m_was_loop d a mT mG mR mU mP o ro po rw0 pw0 f0 sd rt mt gt mN t an s3 s4 ?_ 32 0 rfl
  show AW X (d + 5) 0 0 132 34 [rf 49, iv an, iv 32, jk, jk, jk, jk, jk, jk] [] (CV a (MH mT mG mR mU mP o (ro, po, rwM (ro, po, rw0, pw0, f0, sd, rt, mt, gt), pwM (ro, po, rw0, pw0, f0, sd, rt, mt, gt), f0, sd, rt, mt, gt) mN t)) Q
  generalize rwM (ro, po, rw0, pw0, f0, sd, rt, mt, gt) = rw' at *
  generalize pwM (ro, po, rw0, pw0, f0, sd, rt, mt, gt) = pw at *
  refine aw_tree (I0_ok X _) [(false, 49), (true, 24)] [37] rfl ?_
  refine m_table d a mT mG mR mU mP o ro po rw' pw (sd, rt, mt, gt) mN t an hG hR hOk hoO han hw (fun f i v3 v4 v5 v6 v7 v8 l3 l4 l5 hT => ?_) (o.2 + 1).toNat o.2 f0 jk jk jk jk jk jk (by omega) (by omega) rfl rfl rfl (fun j j0 j1 => by omega)
  have hpr := VV_r hD (o.2 - 0).toNat (dB (DM mG mR o.1 o.2 rw' pw an) (-1)) 0 (cif ((-1 : Int) < 0) 0 0) (by show ((o.2 - 0).toNat : Int) ≤ o.2; omega)
  have hf0 : f (((33 * 0 + -1 + 1) * 6 + 0) * 41 + 0) = pr4 (DM mG mR o.1 o.2 rw' pw an) 0 (-1) 0 0 := by
    by_cases hz : 0 ≤ o.2
    · exact hT 0 (by omega) hz (-1) 0 0 (by omega) (by omega) (by omega) (by omega) (by omega) (by omega)
    · omega
  have hfr : 0 ≤ f (((33 * 0 + -1 + 1) * 6 + 0) * 41 + 0) ∧ f (((33 * 0 + -1 + 1) * 6 + 0) * 41 + 0) ≤ 100000000 := by
    rw [hf0]
    have : 0 ≤ pr4 (DM mG mR o.1 o.2 rw' pw an) 0 (-1) 0 0 ∧ pr4 (DM mG mR o.1 o.2 rw' pw an) 0 (-1) 0 0 ≤ 64001 * (o.2 - 0).toNat := hpr
    omega
  have h106 : AW X (d + 5) 0 0 132 114 [rf 49, iv an, iv (-1), iv 0, iv 0, iv 0, v6, v7, v8] [] (CV a (MH mT mG mR mU mP o (fil ro 7 0, po, rw', pw, f, sd, rt, mt, gt) mN t)) Q := by
    refine m_seven_loop d a mT mG mR mU mP o ro po rw' pw f (sd, rt, mt, gt) mN t an v6 v7 v8 ?_ 32 0 rfl
    refine aw_tree (I0_ok X _) [(false, 49), (true, 24)] [126] rfl ?_
    refine m_walk d a mT mG mR mU mP o (fil ro 7 32) po rw' pw f (sd, rt, mt, gt) mN t an hG hR hOk hoO han hw hT (fun v2 v3 v4 v5 w6 w7 w8 hv4 => ?_) o.2.toNat 0 v6 v7 v8 (by omega)
    have hro7 : ∀ k, 0 ≤ fil ro 7 32 k ∧ fil ro 7 32 k ≤ 7 := by
      intro k
      by_cases c : 0 ≤ k ∧ k < ((32 : Nat) : Int)
      · rw [fil_lt 32 k c.1 c.2]; omega
      · rw [fil_ge 32 k c]; exact s1 k
    have goal := fun w5 => m_moved_loop (X := X) (Q := Q) d a mT mG mR mU mP o (roA (DM mG mR o.1 o.2 rw' pw an) o.1 o.2.toNat (fil ro 7 32)) (poA (DM mG mR o.1 o.2 rw' pw an) o.1 o.2.toNat po) rw' pw f sd rt gt mN t an hG hR hOk hoO (roA_r hD _ _ (by show ((o.2.toNat : Nat) : Int) ≤ o.2; omega) hro7) (poA_r hD _ _ (by show ((o.2.toNat : Nat) : Int) ≤ o.2; omega) s2) hw hfr (by rw [hf0]; exact hQ' f) o.2.toNat 0 v2 v3 v4 w6 w7 w8 hv4 w5
    rcases v4 with z | z | z | z
    · refine aw_tree (I0_ok X _) [(false, 49), (true, 24)] [201] rfl ?_
      exact goal (by omega)
    · cases hv4
    · refine aw_tree (I0_ok X _) [(false, 49), (true, 24)] [201] rfl ?_
      exact goal (by omega)
    · refine aw_tree (I0_ok X _) [(false, 49), (true, 24)] [201] rfl ?_
      exact goal (by omega)
  rcases v3 with z3 | z3 | z3 | z3
  · rcases v4 with z4 | z4 | z4 | z4
    · refine aw_tree (I0_ok X _) [(false, 49), (true, 24)] [114] rfl ?_
      exact h106
    · cases l4
    · refine aw_tree (I0_ok X _) [(false, 49), (true, 24)] [114] rfl ?_
      exact h106
    · refine aw_tree (I0_ok X _) [(false, 49), (true, 24)] [114] rfl ?_
      exact h106
  · cases l3
  · rcases v4 with z4 | z4 | z4 | z4
    · refine aw_tree (I0_ok X _) [(false, 49), (true, 24)] [114] rfl ?_
      exact h106
    · cases l4
    · refine aw_tree (I0_ok X _) [(false, 49), (true, 24)] [114] rfl ?_
      exact h106
    · refine aw_tree (I0_ok X _) [(false, 49), (true, 24)] [114] rfl ?_
      exact h106
  · rcases v4 with z4 | z4 | z4 | z4
    · refine aw_tree (I0_ok X _) [(false, 49), (true, 24)] [114] rfl ?_
      exact h106
    · cases l4
    · refine aw_tree (I0_ok X _) [(false, 49), (true, 24)] [114] rfl ?_
      exact h106
    · refine aw_tree (I0_ok X _) [(false, 49), (true, 24)] [114] rfl ?_
      exact h106

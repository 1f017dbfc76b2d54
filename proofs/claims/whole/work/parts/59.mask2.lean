noncomputable def spM (mG : TyMG) (mS : TyMS) (row : Int) (g : Int) : Int := cif (satM mS g ∧ mS.1 g = row) (mG.1 (6 * g + 4)) 0
theorem spM_r {mG : TyMG} {mS : TyMS} {row : Int} (hG : kG mG) : ∀ k : Nat, k ≤ 32 → 0 ≤ smN (spM mG mS row) k ∧ smN (spM mG mS row) k ≤ 6 * k := by
  intro k
  induction k with
  | zero => intro _; rw [smN]; omega
  | succ k ih =>
    intro hk
    have := ih (by omega)
    rw [smN]
    have g1 := hG.2.1 (6 * k + 4)
    have g2 := hG.2.2.1 k (by omega) (by omega)
    have : 0 ≤ spM mG mS row k ∧ spM mG mS row k ≤ 6 := by
      unfold spM
      by_cases h : satM mS k ∧ mS.1 k = row
      · rw [cif_t h]; omega
      · rw [cif_f h]; omega
    push_cast
    omega
theorem m_spare_loop {X : AX} (d : Nat) (a : AC49) (mT : TyT) (mG : TyMG) (mR : TyMR) (mU : TyMU) (mP : TyMP) (mO : TyO) (mS : TyMS) (mN : TyMN) (t : AH) (row w0 : Int) {Q : AQ} (hrow : inR row) (hS : kS mS) (hG : kG mG)
    (hQ : Q (some (iv (w0 - smN (spM mG mS row) mS.2.2.2.2.2.2.2.2.toNat))) (CV a (MH mT mG mR mU mP mO mS mN t))) :
    ∀ (m k : Nat), k + m = mS.2.2.2.2.2.2.2.2.toNat → AW X (d + 3) 0 0 137 18 [rf 49, iv row, iv (w0 - smN (spM mG mS row) k), iv k] [] (CV a (MH mT mG mR mU mP mO mS mN t)) Q := by
  obtain ⟨s1, s2, s3, s4⟩ := hS
  unfold inR at hrow
  intro m
  induction m with
  | zero =>
    intro k hk
    have e : k = mS.2.2.2.2.2.2.2.2.toNat := by omega
    rw [← e] at hQ
    refine aw_tree (I0_ok X _) [(false, 49), (true, 24)] [18] rfl ?_
    repeat' (first | refine And.intro ?_ ?_ | (refine aImp_e0 ?_; intro _) | (refine aImp_n0 ?_; intro _) | (refine aImp_i ?_; intro _))
    all_goals (try (first | omega | exact bI_01 _ | exact bI_lo _ | exact bI_hi _ | exact bI_hi' _ | exact trivial | exact Or.inl rfl | exact Or.inr rfl | (exfalso; omega)))
    exact hQ
  | succ m ih =>
    intro k hk
    have goal := ih (k + 1) (by omega)
    rw [smN, show w0 - (smN (spM mG mS row) k + spM mG mS row k) = w0 - smN (spM mG mS row) k - spM mG mS row k from by omega] at goal
    have r1 := s1 k
    refine aw_tree (I0_ok X _) [(false, 49), (true, 24)] [18] rfl ?_
    repeat' (first | refine And.intro ?_ ?_ | (refine aImp_e0 ?_; intro _) | (refine aImp_n0 ?_; intro _) | (refine aImp_i ?_; intro _))
    all_goals (try (first | omega | exact bI_01 _ | exact bI_lo _ | exact bI_hi _ | exact bI_hi' _ | exact trivial | exact Or.inl rfl | exact Or.inr rfl | (exfalso; omega)))
    refine aw_cf0 (m_sat _ a mT mG mR mU mP mO mS mN t k (by unfold inR; omega) s3 s4 s1) rfl ?_
    by_cases hs : satM mS k
    · rw [bI_t hs]
      by_cases hr : mS.1 k = row
      · have e : spM mG mS row k = mG.1 (6 * k + 4) := cif_t ⟨hs, hr⟩ _ _
        rw [e] at goal
        refine aw_tree (I0_ok X _) [(false, 49), (true, 24)] [18] rfl ?_
        repeat' (first | refine And.intro ?_ ?_ | (refine aImp_e0 ?_; intro _) | (refine aImp_n0 ?_; intro _) | (refine aImp_i ?_; intro _))
        all_goals (try (first | omega | exact bI_01 _ | exact bI_lo _ | exact bI_hi _ | exact bI_hi' _ | exact trivial | exact Or.inl rfl | exact Or.inr rfl | (exfalso; omega)))
        all_goals exact goal
      · have e : spM mG mS row k = 0 := cif_f (fun q => hr q.2) _ _
        rw [e] at goal
        refine aw_tree (I0_ok X _) [(false, 49), (true, 24)] [18] rfl ?_
        repeat' (first | refine And.intro ?_ ?_ | (refine aImp_e0 ?_; intro _) | (refine aImp_n0 ?_; intro _) | (refine aImp_i ?_; intro _))
        all_goals (try (first | omega | exact bI_01 _ | exact bI_lo _ | exact bI_hi _ | exact bI_hi' _ | exact trivial | exact Or.inl rfl | exact Or.inr rfl | (exfalso; omega)))
        all_goals exact goal
    · have e : spM mG mS row k = 0 := cif_f (fun q => hs q.1) _ _
      rw [e] at goal
      rw [bI_f hs]
      refine aw_tree (I0_ok X _) [(false, 49), (true, 24)] [18] rfl ?_
      repeat' (first | refine And.intro ?_ ?_ | (refine aImp_e0 ?_; intro _) | (refine aImp_n0 ?_; intro _) | (refine aImp_i ?_; intro _))
      all_goals (try (first | omega | exact bI_01 _ | exact bI_lo _ | exact bI_hi _ | exact bI_hi' _ | exact trivial | exact Or.inl rfl | exact Or.inr rfl | (exfalso; omega)))
      all_goals exact goal
theorem m_spare {X : AX} (d : Nat) (a : AC49) (mT : TyT) (mG : TyMG) (mR : TyMR) (mU : TyMU) (mP : TyMP) (mO : TyO) (mS : TyMS) (mN : TyMN) (t : AH) (row : Int) {Q : AQ} (hrow : inR row) (hS : kS mS) (hG : kG mG) (hrt : 0 ≤ mS.2.2.2.2.2.2.1 ∧ mS.2.2.2.2.2.2.1 ≤ 6)
    (h1 : ¬ (mS.2.2.2.2.2.1 = 1 ∧ 0 ≤ row ∧ row < mS.2.2.2.2.2.2.1) → Q (some (iv (-1))) (CV a (MH mT mG mR mU mP mO mS mN t)))
    (h2 : mS.2.2.2.2.2.1 = 1 ∧ 0 ≤ row ∧ row < mS.2.2.2.2.2.2.1 → Q (some (iv (mR.1 row - smN (spM mG mS row) mS.2.2.2.2.2.2.2.2.toNat))) (CV a (MH mT mG mR mU mP mO mS mN t))) :
    AW X (d + 3) 0 0 137 0 (aEntry 137 [rf 49, iv row]) [] (CV a (MH mT mG mR mU mP mO mS mN t)) Q := by
  have hS' := hS
  obtain ⟨s1, s2, s3, s4⟩ := hS'
  have hrow' := hrow
  unfold inR at hrow'
  refine aw_tree (I0_ok X _) [(false, 49), (true, 24)] [18] rfl ?_
  repeat' (first | refine And.intro ?_ ?_ | (refine aImp_e0 ?_; intro _) | (refine aImp_n0 ?_; intro _) | (refine aImp_i ?_; intro _))
  all_goals (try (first | omega | exact bI_01 _ | exact bI_lo _ | exact bI_hi _ | exact bI_hi' _ | exact trivial | exact Or.inl rfl | exact Or.inr rfl | (exfalso; omega)))
  all_goals first
    | exact h1 (by omega)
    | (have goal := m_spare_loop (X := X) d a mT mG mR mU mP mO mS mN t row (mR.1 row) hrow hS hG (h2 (by omega)) mS.2.2.2.2.2.2.2.2.toNat 0 (by omega)
       rw [smN, Int.sub_zero] at goal
       exact goal)
/-- h hides the stage (so high) from g -/
def hidM (mG : TyMG) (mR : TyMR) (mS : TyMS) (h g high : Int) : Prop := satM mS h ∧ mS.1 h < mS.1 g ∧ 2 * mS.2.1 h ≤ 2 * mS.2.1 g + mG.1 (6 * g + 4) ∧ 2 * mS.2.1 g + mG.1 (6 * g + 4) < 2 * (mS.2.1 h + mG.1 (6 * h + 4)) ∧ (mR.2.1 (mS.1 g) + mG.1 (6 * g + 5) - high) * mR.2.2.1 (mS.1 h) < (mR.2.1 (mS.1 h) + mG.1 (6 * h + 5) + 5 - high) * mR.2.2.1 (mS.1 g)
set_option maxRecDepth 100000 in
theorem m_hides {X : AX} (d : Nat) (a : AC49) (mT : TyT) (mG : TyMG) (mR : TyMR) (mU : TyMU) (mP : TyMP) (mO : TyO) (mS : TyMS) (mN : TyMN) (t : AH) (h g high : Int) (hh : 0 ≤ h ∧ h < 32) (hg : 0 ≤ g ∧ g < 32) (hgs : mS.1 g < 6) (hhi : 0 ≤ high ∧ high ≤ 300) (hS : kS mS) (hG : kG mG) (hF : ∀ r, 0 ≤ r → r < 6 → (0 ≤ mR.2.1 r ∧ mR.2.1 r ≤ 300) ∧ (0 ≤ mR.2.2.1 r ∧ mR.2.2.1 r ≤ 400)) :
    AF X (d + 3) 0 0 138 [rf 49, iv h, iv g, iv high] (CV a (MH mT mG mR mU mP mO mS mN t)) (some (iv (bI (hidM mG mR mS h g high)))) (CV a (MH mT mG mR mU mP mO mS mN t)) := by
  obtain ⟨s1, s2, s3, s4⟩ := hS
  have rh := s1 h
  have rg := s1 g
  have ph := s2 h
  have pg := s2 g
  have wh := hG.2.2.1 h hh.1 hh.2
  have wg := hG.2.2.1 g hg.1 hg.2
  have wh4 := hG.2.1 (6 * h + 4)
  have wg4 := hG.2.1 (6 * g + 4)
  have wh5 := hG.2.1 (6 * h + 5)
  have wg5 := hG.2.1 (6 * g + 5)
  have fg := hF (mS.1 g) rg.1 hgs
  refine aw_tree (I0_ok X _) [(false, 49), (true, 24)] [] rfl ?_
  refine aw_cf0 (m_sat _ a mT mG mR mU mP mO mS mN t h (by unfold inR; omega) s3 s4 s1) rfl ?_
  by_cases hs : satM mS h
  · have hs6 := hs.2.2.2
    have fh := hF (mS.1 h) rh.1 hs6
    have m1 := mul_b (a := mR.2.1 (mS.1 h) + mG.1 (6 * h + 5) + 5 - high) (b := mR.2.2.1 (mS.1 g)) (by omega) (by omega)
    have m2 := mul_b (a := mR.2.1 (mS.1 g) + mG.1 (6 * g + 5) - high) (b := mR.2.2.1 (mS.1 h)) (by omega) (by omega)
    have e : hidM mG mR mS h g high ↔ (mS.1 h < mS.1 g ∧ 2 * mS.2.1 h ≤ 2 * mS.2.1 g + mG.1 (6 * g + 4) ∧ 2 * mS.2.1 g + mG.1 (6 * g + 4) < 2 * (mS.2.1 h + mG.1 (6 * h + 4)) ∧ (mR.2.1 (mS.1 g) + mG.1 (6 * g + 5) - high) * mR.2.2.1 (mS.1 h) < (mR.2.1 (mS.1 h) + mG.1 (6 * h + 5) + 5 - high) * mR.2.2.1 (mS.1 g)) := ⟨fun k => k.2, fun k => ⟨hs, k⟩⟩
    rw [bI_t hs, bI_congr e]
    refine aw_tree (I0_ok X _) [(false, 49), (true, 24)] [] rfl ?_
    repeat' (first | refine And.intro ?_ ?_ | (refine aImp_e0 ?_; intro _) | (refine aImp_n0 ?_; intro _) | (refine aImp_i ?_; intro _))
    all_goals (try (first | omega | exact bI_01 _ | exact bI_lo _ | exact bI_hi _ | exact bI_hi' _ | exact trivial | exact Or.inl rfl | exact Or.inr rfl | (exfalso; omega)))
    all_goals first | rfl | rw [bI_f (by omega)] | rw [bI_t (by omega)]
  · rw [bI_f hs, bI_f (fun k => hs k.1)]
    refine aw_tree (I0_ok X _) [(false, 49), (true, 24)] [] rfl ?_
    repeat' (first | refine And.intro ?_ ?_ | (refine aImp_e0 ?_; intro _) | (refine aImp_n0 ?_; intro _) | (refine aImp_i ?_; intro _))
    all_goals (try (first | omega | exact bI_01 _ | exact bI_lo _ | exact bI_hi _ | exact bI_hi' _ | exact trivial | exact Or.inl rfl | exact Or.inr rfl | (exfalso; omega)))
    all_goals rfl

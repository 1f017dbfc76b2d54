theorem m_all1_loop {X : AX} (d : Nat) (a : AC49) (mT : TyT) (mG : TyMG) (mR : TyMR) (mU : TyMU) (mP : TyMP) (mO : TyO) (mS : TyMS) (mN : TyMN) (t : AH) (w : Int) {Q : AQ} (hG : kG mG) (hQ : Q (some (iv (smN mG.2.1 mG.2.2.2.toNat))) (CV a (MH mT mG mR mU mP mO mS mN t))) :
    ∀ (m k : Nat) (v4 : AV), k + m = mG.2.2.2.toNat → AW X (d + 2) 0 0 144 9 [rf 49, iv w, iv (smN mG.2.1 k), iv k, v4] [] (CV a (MH mT mG mR mU mP mO mS mN t)) Q := by
  have hg := hG.1
  intro m
  induction m with
  | zero =>
    intro k v4 hk
    have e : k = mG.2.2.2.toNat := by omega
    rw [← e] at hQ
    refine aw_tree (I0_ok X _) [(false, 49), (true, 24)] [9] rfl ?_
    repeat' (first | refine And.intro ?_ ?_ | (refine aImp_e0 ?_; intro _) | (refine aImp_n0 ?_; intro _) | (refine aImp_i ?_; intro _))
    all_goals (try (first | omega | exact bI_01 _ | exact bI_lo _ | exact bI_hi _ | exact bI_hi' _ | exact trivial | exact Or.inl rfl | exact Or.inr rfl | (exfalso; omega)))
    exact hQ
  | succ m ih =>
    intro k v4 hk
    have goal := ih (k + 1) v4 (by omega)
    rw [smN] at goal
    have h01 := hG.2.2.2.2.1 k
    rcases h01 with h | h
    · rw [h] at goal
      refine aw_tree (I0_ok X _) [(false, 49), (true, 24)] [9] rfl ?_
      rw [h]
      repeat' (first | refine And.intro ?_ ?_ | (refine aImp_e0 ?_; intro _) | (refine aImp_n0 ?_; intro _) | (refine aImp_i ?_; intro _))
      all_goals (try (first | omega | exact bI_01 _ | exact bI_lo _ | exact bI_hi _ | exact bI_hi' _ | exact trivial | exact Or.inl rfl | exact Or.inr rfl | (exfalso; omega)))
      exact goal
    · rw [h] at goal
      refine aw_tree (I0_ok X _) [(false, 49), (true, 24)] [9] rfl ?_
      rw [h]
      repeat' (first | refine And.intro ?_ ?_ | (refine aImp_e0 ?_; intro _) | (refine aImp_n0 ?_; intro _) | (refine aImp_i ?_; intro _))
      all_goals (try (first | omega | exact bI_01 _ | exact bI_lo _ | exact bI_hi _ | exact bI_hi' _ | exact trivial | exact Or.inl rfl | exact Or.inr rfl | (exfalso; omega)))
      exact goal
noncomputable def bsM (mG : TyMG) (x : Int) : Int := smN (fun b => mG.2.2.1 (32 * x + b)) x.toNat
theorem m_all3_in {X : AX} (d : Nat) (a : AC49) (mT : TyT) (mG : TyMG) (mR : TyMR) (mU : TyMU) (mP : TyMP) (mO : TyO) (mS : TyMS) (mN : TyMN) (t : AH) (w x s : Int) {Q : AQ} (hG : kG mG) (hx : 0 ≤ x ∧ x < 32) (hQ : ∀ v4 : Int, AW X (d + 2) 0 0 144 59 [rf 49, iv w, iv (s + bsM mG x), iv x, iv v4] [] (CV a (MH mT mG mR mU mP mO mS mN t)) Q) :
    ∀ (m k : Nat), k + m = x.toNat → AW X (d + 2) 0 0 144 39 [rf 49, iv w, iv (s + smN (fun b => mG.2.2.1 (32 * x + b)) k), iv x, iv k] [] (CV a (MH mT mG mR mU mP mO mS mN t)) Q := by
  intro m
  induction m with
  | zero =>
    intro k hk
    have e : k = x.toNat := by omega
    have q := hQ k
    unfold bsM at q
    rw [← e] at q
    refine aw_tree (I0_ok X _) [(false, 49), (true, 24)] [39, 59] rfl ?_
    repeat' (first | refine And.intro ?_ ?_ | (refine aImp_e0 ?_; intro _) | (refine aImp_n0 ?_; intro _) | (refine aImp_i ?_; intro _))
    all_goals (try (first | omega | exact bI_01 _ | exact bI_lo _ | exact bI_hi _ | exact bI_hi' _ | exact trivial | exact Or.inl rfl | exact Or.inr rfl | (exfalso; omega)))
    exact q
  | succ m ih =>
    intro k hk
    have goal := ih (k + 1) (by omega)
    rw [smN, ← Int.add_assoc] at goal
    have h01 := hG.2.2.2.2.2 (32 * x + k)
    rcases h01 with h | h
    · rw [h] at goal
      refine aw_tree (I0_ok X _) [(false, 49), (true, 24)] [39, 59] rfl ?_
      rw [h]
      repeat' (first | refine And.intro ?_ ?_ | (refine aImp_e0 ?_; intro _) | (refine aImp_n0 ?_; intro _) | (refine aImp_i ?_; intro _))
      all_goals (try (first | omega | exact bI_01 _ | exact bI_lo _ | exact bI_hi _ | exact bI_hi' _ | exact trivial | exact Or.inl rfl | exact Or.inr rfl | (exfalso; omega)))
      exact goal
    · rw [h] at goal
      refine aw_tree (I0_ok X _) [(false, 49), (true, 24)] [39, 59] rfl ?_
      rw [h]
      repeat' (first | refine And.intro ?_ ?_ | (refine aImp_e0 ?_; intro _) | (refine aImp_n0 ?_; intro _) | (refine aImp_i ?_; intro _))
      all_goals (try (first | omega | exact bI_01 _ | exact bI_lo _ | exact bI_hi _ | exact bI_hi' _ | exact trivial | exact Or.inl rfl | exact Or.inr rfl | (exfalso; omega)))
      exact goal
theorem m_all3_loop {X : AX} (d : Nat) (a : AC49) (mT : TyT) (mG : TyMG) (mR : TyMR) (mU : TyMU) (mP : TyMP) (mO : TyO) (mS : TyMS) (mN : TyMN) (t : AH) (w : Int) {Q : AQ} (hG : kG mG) (hQ : Q (some (iv (smN (bsM mG) mG.2.2.2.toNat))) (CV a (MH mT mG mR mU mP mO mS mN t))) :
    ∀ (m k : Nat) (v4 : AV), k + m = mG.2.2.2.toNat → AW X (d + 2) 0 0 144 33 [rf 49, iv w, iv (smN (bsM mG) k), iv k, v4] [] (CV a (MH mT mG mR mU mP mO mS mN t)) Q := by
  have hg := hG.1
  intro m
  induction m with
  | zero =>
    intro k v4 hk
    have e : k = mG.2.2.2.toNat := by omega
    rw [← e] at hQ
    refine aw_tree (I0_ok X _) [(false, 49), (true, 24)] [33, 39] rfl ?_
    repeat' (first | refine And.intro ?_ ?_ | (refine aImp_e0 ?_; intro _) | (refine aImp_n0 ?_; intro _) | (refine aImp_i ?_; intro _))
    all_goals (try (first | omega | exact bI_01 _ | exact bI_lo _ | exact bI_hi _ | exact bI_hi' _ | exact trivial | exact Or.inl rfl | exact Or.inr rfl | (exfalso; omega)))
    exact hQ
  | succ m ih =>
    intro k v4 hk
    have goal := fun v4 => ih (k + 1) v4 (by omega)
    rw [smN] at goal
    refine aw_tree (I0_ok X _) [(false, 49), (true, 24)] [33, 39] rfl ?_
    repeat' (first | refine And.intro ?_ ?_ | (refine aImp_e0 ?_; intro _) | (refine aImp_n0 ?_; intro _) | (refine aImp_i ?_; intro _))
    all_goals (try (first | omega | exact bI_01 _ | exact bI_lo _ | exact bI_hi _ | exact bI_hi' _ | exact trivial | exact Or.inl rfl | exact Or.inr rfl | (exfalso; omega)))
    have q := m_all3_in (X := X) (Q := Q) d a mT mG mR mU mP mO mS mN t w k (smN (bsM mG) k) hG (by omega) (fun v4 => by
      refine aw_tree (I0_ok X _) [(false, 49), (true, 24)] [33] rfl ?_
      exact goal (iv v4)) k 0 (by omega)
    rw [smN, Int.add_zero] at q
    exact q
/-- who sits, and (5: at all, 6: sees) -/
noncomputable def seeM (mG : TyMG) (mR : TyMR) (mS : TyMS) (w g : Int) : Int := bI (satM mS g ∧ (w = 5 ∨ hcM mG mR mS g mR.2.2.2.2.1 mS.2.2.2.2.2.2.2.2.toNat = 0))
theorem m_all5_loop {X : AX} (d : Nat) (a : AC49) (mT : TyT) (mG : TyMG) (mR : TyMR) (mU : TyMU) (mP : TyMP) (mO : TyO) (mS : TyMS) (mN : TyMN) (t : AH) (w : Int) {Q : AQ} (hw : w = 5 ∨ w = 6) (hst : 0 ≤ mR.2.2.2.2.1 ∧ mR.2.2.2.2.1 ≤ 300) (hS : kS mS) (hG : kG mG) (hF : ∀ r, 0 ≤ r → r < 6 → (0 ≤ mR.2.1 r ∧ mR.2.1 r ≤ 300) ∧ (0 ≤ mR.2.2.1 r ∧ mR.2.2.1 r ≤ 400)) (hQ : Q (some (iv (smN (seeM mG mR mS w) mS.2.2.2.2.2.2.2.2.toNat))) (CV a (MH mT mG mR mU mP mO mS mN t))) :
    ∀ (m k : Nat) (v4 : AV), k + m = mS.2.2.2.2.2.2.2.2.toNat → AW X (d + 5) 0 0 144 70 [rf 49, iv w, iv (smN (seeM mG mR mS w) k), iv k, v4] [] (CV a (MH mT mG mR mU mP mO mS mN t)) Q := by
  have hS' := hS
  obtain ⟨s1, s2, s3, s4⟩ := hS'
  intro m
  induction m with
  | zero =>
    intro k v4 hk
    have e : k = mS.2.2.2.2.2.2.2.2.toNat := by omega
    rw [← e] at hQ
    refine aw_tree (I0_ok X _) [(false, 49), (true, 24)] [70] rfl ?_
    repeat' (first | refine And.intro ?_ ?_ | (refine aImp_e0 ?_; intro _) | (refine aImp_n0 ?_; intro _) | (refine aImp_i ?_; intro _))
    all_goals (try (first | omega | exact bI_01 _ | exact bI_lo _ | exact bI_hi _ | exact bI_hi' _ | exact trivial | exact Or.inl rfl | exact Or.inr rfl | (exfalso; omega)))
    exact hQ
  | succ m ih =>
    intro k v4 hk
    have goal := ih (k + 1) v4 (by omega)
    rw [smN] at goal
    unfold seeM at goal
    have hr := hcM_r (mG := mG) (mR := mR) (mS := mS) (g := k) (high := mR.2.2.2.2.1) mS.2.2.2.2.2.2.2.2.toNat
    refine aw_tree (I0_ok X _) [(false, 49), (true, 24)] [70] rfl ?_
    repeat' (first | refine And.intro ?_ ?_ | (refine aImp_e0 ?_; intro _) | (refine aImp_n0 ?_; intro _) | (refine aImp_i ?_; intro _))
    all_goals (try (first | omega | exact bI_01 _ | exact bI_lo _ | exact bI_hi _ | exact bI_hi' _ | exact trivial | exact Or.inl rfl | exact Or.inr rfl | (exfalso; omega)))
    refine aw_cf0 (m_sat _ a mT mG mR mU mP mO mS mN t k (by unfold inR; omega) s3 s4 s1) rfl ?_
    by_cases hs : satM mS k
    · rw [bI_t hs]
      by_cases h5 : w = 5
      · rw [bI_t ⟨hs, Or.inl h5⟩] at goal
        refine aw_tree (I0_ok X _) [(false, 49), (true, 24)] [70] rfl ?_
        repeat' (first | refine And.intro ?_ ?_ | (refine aImp_e0 ?_; intro _) | (refine aImp_n0 ?_; intro _) | (refine aImp_i ?_; intro _))
        all_goals (try (first | omega | exact bI_01 _ | exact bI_lo _ | exact bI_hi _ | exact bI_hi' _ | exact trivial | exact Or.inl rfl | exact Or.inr rfl | (exfalso; omega)))
        exact goal
      · refine aw_tree (I0_ok X _) [(false, 49), (true, 24)] [70] rfl ?_
        repeat' (first | refine And.intro ?_ ?_ | (refine aImp_e0 ?_; intro _) | (refine aImp_n0 ?_; intro _) | (refine aImp_i ?_; intro _))
        all_goals (try (first | omega | exact bI_01 _ | exact bI_lo _ | exact bI_hi _ | exact bI_hi' _ | exact trivial | exact Or.inl rfl | exact Or.inr rfl | (exfalso; omega)))
        refine aw_cf0 (m_hidden _ a mT mG mR mU mP mO mS mN t k (by unfold inR; omega) hst hS hG hF) rfl ?_
        rw [cif_t hs]
        by_cases hz : hcM mG mR mS k mR.2.2.2.2.1 mS.2.2.2.2.2.2.2.2.toNat = 0
        · rw [bI_t ⟨hs, Or.inr hz⟩] at goal
          refine aw_tree (I0_ok X _) [(false, 49), (true, 24)] [70] rfl ?_
          repeat' (first | refine And.intro ?_ ?_ | (refine aImp_e0 ?_; intro _) | (refine aImp_n0 ?_; intro _) | (refine aImp_i ?_; intro _))
          all_goals (try (first | omega | exact bI_01 _ | exact bI_lo _ | exact bI_hi _ | exact bI_hi' _ | exact trivial | exact Or.inl rfl | exact Or.inr rfl | (exfalso; omega)))
          exact goal
        · rw [bI_f (fun z => by
            rcases z.2 with q | q
            · exact h5 q
            · exact hz q)] at goal
          refine aw_tree (I0_ok X _) [(false, 49), (true, 24)] [70] rfl ?_
          repeat' (first | refine And.intro ?_ ?_ | (refine aImp_e0 ?_; intro _) | (refine aImp_n0 ?_; intro _) | (refine aImp_i ?_; intro _))
          all_goals (try (first | omega | exact bI_01 _ | exact bI_lo _ | exact bI_hi _ | exact bI_hi' _ | exact trivial | exact Or.inl rfl | exact Or.inr rfl | (exfalso; omega)))
          exact goal
    · rw [bI_f (fun z => hs z.1)] at goal
      rw [bI_f hs]
      refine aw_tree (I0_ok X _) [(false, 49), (true, 24)] [70] rfl ?_
      repeat' (first | refine And.intro ?_ ?_ | (refine aImp_e0 ?_; intro _) | (refine aImp_n0 ?_; intro _) | (refine aImp_i ?_; intro _))
      all_goals (try (first | omega | exact bI_01 _ | exact bI_lo _ | exact bI_hi _ | exact bI_hi' _ | exact trivial | exact Or.inl rfl | exact Or.inr rfl | (exfalso; omega)))
      exact goal

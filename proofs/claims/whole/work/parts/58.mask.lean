/-! ===== what the model answers of a seating ===== -/
theorem mul_b {a b : Int} (ha : -400 ≤ a ∧ a ≤ 400) (hb : 0 ≤ b ∧ b ≤ 400) : -160000 ≤ a * b ∧ a * b ≤ 160000 := by
  have h1 : a * b ≤ 400 * b := Int.mul_le_mul_of_nonneg_right ha.2 hb.1
  have h2 : -400 * b ≤ a * b := Int.mul_le_mul_of_nonneg_right ha.1 hb.1
  omega
theorem m_sits {X : AX} (d : Nat) (a : AC49) (mT : TyT) (mG : TyMG) (mR : TyMR) (mU : TyMU) (mP : TyMP) (mO : TyO) (mS : TyMS) (mN : TyMN) (t : AH) (g w : Int) {Q : AQ} (hg : inR g) (hw : inR w) (hS : kS mS) (hG : kG mG)
    (h1 : ¬ (mS.2.2.2.2.2.1 = 1 ∧ (0 ≤ g ∧ g < mS.2.2.2.2.2.2.2.2) ∧ mS.1 g ≤ 6 ∧ (0 ≤ w ∧ w ≤ 2)) → Q (some (iv (-2))) (CV a (MH mT mG mR mU mP mO mS mN t)))
    (h2 : mS.2.2.2.2.2.1 = 1 ∧ (0 ≤ g ∧ g < mS.2.2.2.2.2.2.2.2) ∧ mS.1 g ≤ 6 ∧ (0 ≤ w ∧ w ≤ 2) → Q (some (iv (cif (mS.1 g = 6) (-1) (cif (w = 0) (mS.1 g) (cif (w = 1) (mS.2.1 g) (mS.2.1 g + mG.1 (6 * g + 4) - 1)))))) (CV a (MH mT mG mR mU mP mO mS mN t))) :
    AW X (d + 2) 0 0 135 0 (aEntry 135 [rf 49, iv g, iv w]) [] (CV a (MH mT mG mR mU mP mO mS mN t)) Q := by
  obtain ⟨s1, s2, s3, s4⟩ := hS
  have r1 := s1 g
  unfold inR at hg hw
  refine aw_tree (I0_ok X _) [(false, 49), (true, 24)] [] rfl ?_
  repeat' (first | refine And.intro ?_ ?_ | (refine aImp_e0 ?_; intro _) | (refine aImp_n0 ?_; intro _) | (refine aImp_i ?_; intro _))
  all_goals (try (first | omega | exact bI_01 _ | exact bI_lo _ | exact bI_hi _ | exact bI_hi' _ | exact trivial | exact Or.inl rfl | exact Or.inr rfl | (exfalso; omega)))
  all_goals first
    | exact h1 (by omega)
    | (have q := h2 (by omega); rw [cif_t (by omega)] at q; exact q)
    | (have q := h2 (by omega); rw [cif_f (by omega), cif_t (by omega)] at q; exact q)
    | (have q := h2 (by omega); rw [cif_f (by omega), cif_f (by omega), cif_t (by omega)] at q; exact q)
    | (have q := h2 (by omega); rw [cif_f (by omega), cif_f (by omega), cif_f (by omega)] at q; exact q)
theorem m_comes {X : AX} (d : Nat) (a : AC49) (mT : TyT) (mG : TyMG) (mR : TyMR) (mU : TyMU) (mP : TyMP) (mO : TyO) (mS : TyMS) (mN : TyMN) (t : AH) (g w : Int) {Q : AQ} (hg : inR g) (hw : inR w) (hm : mN.2.2.2.2.1 = 0 ∨ mN.2.2.2.2.1 = 1) (hn : 0 ≤ mN.2.2.2.2.2 ∧ mN.2.2.2.2.2 ≤ 32) (hr : ∀ i, 0 ≤ i → i < 32 → -1 ≤ mN.2.2.1 i ∧ mN.2.2.1 i ≤ 32)
    (h1 : ¬ (mN.2.2.2.2.1 = 1 ∧ (0 ≤ g ∧ g < mN.2.2.2.2.2) ∧ ¬ mN.2.2.1 g = -1) → Q (some (iv (-1))) (CV a (MH mT mG mR mU mP mO mS mN t)))
    (h2 : mN.2.2.2.2.1 = 1 ∧ (0 ≤ g ∧ g < mN.2.2.2.2.2) ∧ ¬ mN.2.2.1 g = -1 → Q (some (iv (cif (w = 0) (mN.1 g) (cif (w = 1) (mN.2.1 g) (cif (w = 2) (mN.2.2.1 g) (-1)))))) (CV a (MH mT mG mR mU mP mO mS mN t))) :
    AW X (d + 2) 0 0 143 0 (aEntry 143 [rf 49, iv g, iv w]) [] (CV a (MH mT mG mR mU mP mO mS mN t)) Q := by
  unfold inR at hg hw
  have hrg := hr g
  refine aw_tree (I0_ok X _) [(false, 49), (true, 24)] [] rfl ?_
  repeat' (first | refine And.intro ?_ ?_ | (refine aImp_e0 ?_; intro _) | (refine aImp_n0 ?_; intro _) | (refine aImp_i ?_; intro _))
  all_goals (try (first | omega | exact bI_01 _ | exact bI_lo _ | exact bI_hi _ | exact bI_hi' _ | exact trivial | exact Or.inl rfl | exact Or.inr rfl | (exfalso; omega)))
  all_goals first
    | exact h1 (by omega)
    | (have q := h2 (by omega); rw [cif_t (by omega)] at q; exact q)
    | (have q := h2 (by omega); rw [cif_f (by omega), cif_t (by omega)] at q; exact q)
    | (have q := h2 (by omega); rw [cif_f (by omega), cif_f (by omega), cif_t (by omega)] at q; exact q)
    | (have q := h2 (by omega); rw [cif_f (by omega), cif_f (by omega), cif_f (by omega)] at q; exact q)
/-- the last below k of whom p holds, or -1 -/
noncomputable def lstG (p : Int → Prop) : Nat → Int
  | 0 => -1
  | k + 1 => cif (p k) (k : Int) (lstG p k)
def atM (mG : TyMG) (mS : TyMS) (row place g : Int) : Prop := satM mS g ∧ mS.1 g = row ∧ mS.2.1 g ≤ place ∧ place < mS.2.1 g + mG.1 (6 * g + 4)
theorem m_at_loop {X : AX} (d : Nat) (a : AC49) (mT : TyT) (mG : TyMG) (mR : TyMR) (mU : TyMU) (mP : TyMP) (mO : TyO) (mS : TyMS) (mN : TyMN) (t : AH) (row place : Int) {Q : AQ} (hrow : inR row) (hpl : inR place) (hS : kS mS) (hG : kG mG)
    (hQ : Q (some (iv (lstG (atM mG mS row place) mS.2.2.2.2.2.2.2.2.toNat))) (CV a (MH mT mG mR mU mP mO mS mN t))) :
    ∀ (m k : Nat), k + m = mS.2.2.2.2.2.2.2.2.toNat → AW X (d + 3) 0 0 136 4 [rf 49, iv row, iv place, iv (lstG (atM mG mS row place) k), iv k] [] (CV a (MH mT mG mR mU mP mO mS mN t)) Q := by
  obtain ⟨s1, s2, s3, s4⟩ := hS
  unfold inR at hrow hpl
  intro m
  induction m with
  | zero =>
    intro k hk
    have e : k = mS.2.2.2.2.2.2.2.2.toNat := by omega
    rw [← e] at hQ
    refine aw_tree (I0_ok X _) [(false, 49), (true, 24)] [4] rfl ?_
    repeat' (first | refine And.intro ?_ ?_ | (refine aImp_e0 ?_; intro _) | (refine aImp_n0 ?_; intro _) | (refine aImp_i ?_; intro _))
    all_goals (try (first | omega | exact bI_01 _ | exact bI_lo _ | exact bI_hi _ | exact bI_hi' _ | exact trivial | exact Or.inl rfl | exact Or.inr rfl | (exfalso; omega)))
    exact hQ
  | succ m ih =>
    intro k hk
    have goal := ih (k + 1) (by omega)
    rw [lstG] at goal
    have r1 := s1 k
    have r2 := s2 k
    have g1 := hG.2.1 (6 * k + 4)
    have g2 := hG.2.2.1 k (by omega) (by omega)
    refine aw_tree (I0_ok X _) [(false, 49), (true, 24)] [4] rfl ?_
    repeat' (first | refine And.intro ?_ ?_ | (refine aImp_e0 ?_; intro _) | (refine aImp_n0 ?_; intro _) | (refine aImp_i ?_; intro _))
    all_goals (try (first | omega | exact bI_01 _ | exact bI_lo _ | exact bI_hi _ | exact bI_hi' _ | exact trivial | exact Or.inl rfl | exact Or.inr rfl | (exfalso; omega)))
    refine aw_cf0 (m_sat _ a mT mG mR mU mP mO mS mN t k (by unfold inR; omega) s3 s4 s1) rfl ?_
    by_cases hq : atM mG mS row place k
    · rw [cif_t hq] at goal
      obtain ⟨c1, c2, c3, c4⟩ := hq
      rw [bI_t c1]
      refine aw_tree (I0_ok X _) [(false, 49), (true, 24)] [4] rfl ?_
      repeat' (first | refine And.intro ?_ ?_ | (refine aImp_e0 ?_; intro _) | (refine aImp_n0 ?_; intro _) | (refine aImp_i ?_; intro _))
      all_goals (try (first | omega | exact bI_01 _ | exact bI_lo _ | exact bI_hi _ | exact bI_hi' _ | exact trivial | exact Or.inl rfl | exact Or.inr rfl | (exfalso; omega)))
      exact goal
    · rw [cif_f hq] at goal
      by_cases hs : satM mS k
      · rw [bI_t hs]
        have hn : ¬ (mS.1 k = row ∧ mS.2.1 k ≤ place ∧ place < mS.2.1 k + mG.1 (6 * k + 4)) := fun h => hq ⟨hs, h⟩
        refine aw_tree (I0_ok X _) [(false, 49), (true, 24)] [4] rfl ?_
        repeat' (first | refine And.intro ?_ ?_ | (refine aImp_e0 ?_; intro _) | (refine aImp_n0 ?_; intro _) | (refine aImp_i ?_; intro _))
        all_goals (try (first | omega | exact bI_01 _ | exact bI_lo _ | exact bI_hi _ | exact bI_hi' _ | exact trivial | exact Or.inl rfl | exact Or.inr rfl | (exfalso; omega)))
        all_goals exact goal
      · rw [bI_f hs]
        refine aw_tree (I0_ok X _) [(false, 49), (true, 24)] [4] rfl ?_
        repeat' (first | refine And.intro ?_ ?_ | (refine aImp_e0 ?_; intro _) | (refine aImp_n0 ?_; intro _) | (refine aImp_i ?_; intro _))
        all_goals (try (first | omega | exact bI_01 _ | exact bI_lo _ | exact bI_hi _ | exact bI_hi' _ | exact trivial | exact Or.inl rfl | exact Or.inr rfl | (exfalso; omega)))
        all_goals exact goal
theorem m_at {X : AX} (d : Nat) (a : AC49) (mT : TyT) (mG : TyMG) (mR : TyMR) (mU : TyMU) (mP : TyMP) (mO : TyO) (mS : TyMS) (mN : TyMN) (t : AH) (row place : Int) (hrow : inR row) (hpl : inR place) (hS : kS mS) (hG : kG mG) : AF X (d + 3) 0 0 136 [rf 49, iv row, iv place] (CV a (MH mT mG mR mU mP mO mS mN t)) (some (iv (lstG (atM mG mS row place) mS.2.2.2.2.2.2.2.2.toNat))) (CV a (MH mT mG mR mU mP mO mS mN t)) := by
  refine aw_tree (I0_ok X _) [(false, 49), (true, 24)] [4] rfl ?_
  exact m_at_loop d a mT mG mR mU mP mO mS mN t row place hrow hpl hS hG ⟨rfl, rfl⟩ mS.2.2.2.2.2.2.2.2.toNat 0 (by omega)

theorem m_all {X : AX} (d : Nat) (a : AC49) (mT : TyT) (mG : TyMG) (mR : TyMR) (mU : TyMU) (mP : TyMP) (mO : TyO) (mS : TyMS) (mN : TyMN) (t : AH) (w : Int) {Q : AQ} (hw : inR w) (hst : 0 ≤ mR.2.2.2.2.1 ∧ mR.2.2.2.2.1 ≤ 300) (hS : kS mS) (hG : kG mG) (hU : kU mU) (hF : ∀ r, 0 ≤ r → r < 6 → (0 ≤ mR.2.1 r ∧ mR.2.1 r ≤ 300) ∧ (0 ≤ mR.2.2.1 r ∧ mR.2.2.1 r ≤ 400))
    (h0 : w = 0 → Q (some (iv mG.2.2.2)) (CV a (MH mT mG mR mU mP mO mS mN t))) (h1 : w = 1 → Q (some (iv (smN mG.2.1 mG.2.2.2.toNat))) (CV a (MH mT mG mR mU mP mO mS mN t))) (h2 : w = 2 → Q (some (iv mR.2.2.2.1)) (CV a (MH mT mG mR mU mP mO mS mN t)))
    (h3 : w = 3 → Q (some (iv (smN (bsM mG) mG.2.2.2.toNat))) (CV a (MH mT mG mR mU mP mO mS mN t))) (h4 : w = 4 → Q (some (iv (ordM mG mU mO).2)) (CV a (MH mT mG mR mU mP (ordM mG mU mO) mS mN t)))
    (h5 : w = 5 ∨ w = 6 → Q (some (iv (smN (seeM mG mR mS w) mS.2.2.2.2.2.2.2.2.toNat))) (CV a (MH mT mG mR mU mP mO mS mN t))) (hx : w < 0 ∨ 6 < w → Q (some (iv (-1))) (CV a (MH mT mG mR mU mP mO mS mN t))) :
    AW X (d + 5) 0 0 144 0 (aEntry 144 [rf 49, iv w]) [] (CV a (MH mT mG mR mU mP mO mS mN t)) Q := by
  unfold inR at hw
  refine aw_tree (I0_ok X _) [(false, 49), (true, 24)] [9, 33, 63, 70] rfl ?_
  repeat' (first | refine And.intro ?_ ?_ | (refine aImp_e0 ?_; intro _) | (refine aImp_n0 ?_; intro _) | (refine aImp_i ?_; intro _))
  all_goals (try (first | omega | exact bI_01 _ | exact bI_lo _ | exact bI_hi _ | exact bI_hi' _ | exact trivial | exact Or.inl rfl | exact Or.inr rfl | (exfalso; omega)))
  all_goals first
    | exact h0 (by omega)
    | exact h2 (by omega)
    | exact hx (by omega)
    | exact m_all1_loop _ a mT mG mR mU mP mO mS mN t w hG (h1 (by omega)) mG.2.2.2.toNat 0 jk (by omega)
    | exact m_all3_loop _ a mT mG mR mU mP mO mS mN t w hG (h3 (by omega)) mG.2.2.2.toNat 0 jk (by omega)
    | exact m_all5_loop d a mT mG mR mU mP mO mS mN t w (by omega) hst hS hG hF (h5 (by omega)) mS.2.2.2.2.2.2.2.2.toNat 0 jk (by omega)
    | (have q := h4 (by omega)
       refine aw_tree (I0_ok X _) [(false, 49), (true, 24)] [] rfl ?_
       refine aw_cf0 (m_orders _ a mT mG mR mU mP mO mS mN t hG hU) rfl ?_
       refine aw_tree (I0_ok X _) [(false, 49), (true, 24)] [] rfl ?_
       exact q)

/-! ===== the model's order ===== -/
def kG (mG : TyMG) : Prop := (0 ≤ mG.2.2.2 ∧ mG.2.2.2 ≤ 32) ∧ (∀ i, 0 ≤ mG.1 i ∧ mG.1 i ≤ 9999) ∧ (∀ g, 0 ≤ g → g < 32 → mG.1 (6 * g) ≤ 7 ∧ mG.1 (6 * g + 3) ≤ 1000 ∧ mG.1 (6 * g + 4) ≤ 6 ∧ mG.1 (6 * g + 5) ≤ 80) ∧ (∀ g, 0 ≤ g → g < mG.2.2.2 → 1 ≤ mG.1 (6 * g + 4)) ∧ (∀ i, mG.2.1 i = 0 ∨ mG.2.1 i = 1) ∧ (∀ i, mG.2.2.1 i = 0 ∨ mG.2.2.1 i = 1)
def kU (mU : TyMU) : Prop := (0 ≤ mU.2.2.2 ∧ mU.2.2.2 ≤ 8) ∧ (∀ k, 0 ≤ k → k < 8 → -1 ≤ mU.1 k ∧ mU.1 k < mU.2.2.2) ∧ (∀ x, 0 ≤ x → x < mU.2.2.2 → 0 ≤ mU.2.1 x ∧ mU.2.1 x ≤ 25) ∧ (∀ x k, 0 ≤ x → x < mU.2.2.2 → 0 ≤ k → k < mU.2.1 x → (1 ≤ mU.2.2.1 (80 * x + 2 * k) ∧ mU.2.2.1 (80 * x + 2 * k) ≤ 5) ∧ (mU.2.2.1 (80 * x + 2 * k + 1) = 1 ∨ mU.2.2.1 (80 * x + 2 * k + 1) = -1))
theorem m_isIn {X : AX} (d : Nat) (a : AC49) (mT : TyT) (mG : TyMG) (mR : TyMR) (mU : TyMU) (mP : TyMP) (mO : TyO) (mS : TyMS) (mN : TyMN) (t : AH) (g : Int) (hg : 0 ≤ g ∧ g < 32) (hG : kG mG) (hU : kU mU) : AF X (d + 2) 0 0 122 [rf 49, iv g] (CV a (MH mT mG mR mU mP mO mS mN t)) (some (iv (bI (mG.2.1 g = 0 ∧ ¬ lnM mG mU g = -1)))) (CV a (MH mT mG mR mU mP mO mS mN t)) := by
  obtain ⟨g0, g1, g2, g3, g4, g5⟩ := hG
  obtain ⟨u0, u1, u2, u3⟩ := hU
  have a1 := g1 (6 * g)
  have a2 := g2 g hg.1 hg.2
  have a4 := g4 g
  have b1 := u1 (mG.1 (6 * g)) (by omega) (by omega)
  unfold lnM
  refine aw_tree (I0_ok X _) [(false, 49), (true, 24)] [] rfl ?_
  repeat' (first | refine And.intro ?_ ?_ | (refine aImp_e0 ?_; intro _) | (refine aImp_n0 ?_; intro _) | (refine aImp_i ?_; intro _))
  all_goals (try (first | omega | exact bI_01 _ | exact bI_lo _ | exact bI_hi _ | exact bI_hi' _ | exact trivial | exact Or.inl rfl | exact Or.inr rfl | (exfalso; omega)))
  all_goals first | rfl | rw [bI_f (by omega)] | rw [bI_t (by omega)]
theorem keyC_r {mG : TyMG} {mU : TyMU} {x a b k : Int} (hG : kG mG) (h : mU.2.2.1 (80 * x + 2 * k + 1) = 1 ∨ mU.2.2.1 (80 * x + 2 * k + 1) = -1) : -9999 ≤ keyC mG mU x a b k ∧ keyC mG mU x a b k ≤ 9999 := by
  have e1 := hG.2.1 (6 * a + mU.2.2.1 (80 * x + 2 * k))
  have e2 := hG.2.1 (6 * b + mU.2.2.1 (80 * x + 2 * k))
  unfold keyC
  rcases h with h | h <;> rw [h] <;> omega
set_option maxRecDepth 100000 in
theorem m_isAhead_loop {X : AX} (d : Nat) (a : AC49) (mT : TyT) (mG : TyMG) (mR : TyMR) (mU : TyMU) (mP : TyMP) (mO : TyO) (mS : TyMS) (mN : TyMN) (t : AH) (p q x : Int) {Q : AQ} (hp : 0 ≤ p ∧ p < 32) (hq : 0 ≤ q ∧ q < 32) (hG : kG mG) (hU : kU mU) (hx : 0 ≤ x ∧ x < mU.2.2.2) :
    ∀ (m : Nat) (k : Int) (v6 : AV), 0 ≤ k → k + m = mU.2.1 x → Q (some (iv (bI (ahd (keyC mG mU x p q) (p < q) m k)))) (CV a (MH mT mG mR mU mP mO mS mN t)) → AW X (d + 2) 0 0 123 32 [rf 49, iv p, iv q, iv x, iv x, iv k, v6] [] (CV a (MH mT mG mR mU mP mO mS mN t)) Q := by
  have hG' := hG
  obtain ⟨g0, g1, g2, g3, g4, g5⟩ := hG'
  obtain ⟨u0, u1, u2, u3⟩ := hU
  have ux := u2 x hx.1 hx.2
  intro m
  induction m with
  | zero =>
    intro k v6 k0 hk hQ
    refine aw_tree (I0_ok X _) [(false, 49), (true, 24)] [32] rfl ?_
    repeat' (first | refine And.intro ?_ ?_ | (refine aImp_e0 ?_; intro _) | (refine aImp_n0 ?_; intro _) | (refine aImp_i ?_; intro _))
    all_goals (try (first | omega | exact bI_01 _ | exact bI_lo _ | exact bI_hi _ | exact bI_hi' _ | exact trivial | exact Or.inl rfl | exact Or.inr rfl | (exfalso; omega)))
    · rw [show bI (ahd (keyC mG mU x p q) (p < q) 0 k) = 0 from bI_f (fun h => by unfold ahd at h; omega)] at hQ
      exact hQ
    · rw [show bI (ahd (keyC mG mU x p q) (p < q) 0 k) = 1 from bI_t (by unfold ahd; omega)] at hQ
      exact hQ
  | succ m ih =>
    intro k v6 k0 hk hQ
    have uk := u3 x k hx.1 hx.2 k0 (by omega)
    have kr := keyC_r (a := p) (b := q) hG uk.2
    have w1 := g1 (6 * p + mU.2.2.1 (80 * x + 2 * k))
    have w2 := g1 (6 * q + mU.2.2.1 (80 * x + 2 * k))
    have hc : keyC mG mU x p q k = (mG.1 (6 * p + mU.2.2.1 (80 * x + 2 * k)) - mG.1 (6 * q + mU.2.2.1 (80 * x + 2 * k))) * mU.2.2.1 (80 * x + 2 * k + 1) := rfl
    generalize hce : keyC mG mU x p q k = c at hc kr
    refine aw_tree (I0_ok X _) [(false, 49), (true, 24)] [32] rfl ?_
    repeat' (first | refine And.intro ?_ ?_ | (refine aImp_e0 ?_; intro _) | (refine aImp_n0 ?_; intro _) | (refine aImp_i ?_; intro _))
    all_goals (try (first | omega | exact bI_01 _ | exact bI_lo _ | exact bI_hi _ | exact bI_hi' _ | exact trivial | exact Or.inl rfl | exact Or.inr rfl | (exfalso; omega)))
    all_goals rw [← hc] at *
    all_goals try omega
    · refine ih (k + 1) _ (by omega) (by omega) ?_
      rw [show bI (ahd (keyC mG mU x p q) (p < q) (m + 1) k) = bI (ahd (keyC mG mU x p q) (p < q) m (k + 1)) from bI_congr (by
        rw [ahd, hce]
        constructor
        · intro h
          rcases h with h | h
          · omega
          · exact h.2
        · intro h
          exact Or.inr ⟨by assumption, h⟩)] at hQ
      exact hQ
    · rw [show bI (ahd (keyC mG mU x p q) (p < q) (m + 1) k) = 0 from bI_f (fun h => by
        rw [ahd, hce] at h
        rcases h with h | h <;> omega)] at hQ
      exact hQ
    · rw [show bI (ahd (keyC mG mU x p q) (p < q) (m + 1) k) = 1 from bI_t (by
        rw [ahd, hce]
        exact Or.inl ⟨by assumption, by assumption⟩)] at hQ
      exact hQ

theorem ahM_same {mG : TyMG} {mU : TyMU} {p q : Int} (h : lnM mG mU p = lnM mG mU q) : ahM mG mU p q ↔ ahd (keyC mG mU (lnM mG mU p) p q) (p < q) (mU.2.1 (lnM mG mU p)).toNat 0 := by
  unfold ahM
  constructor
  · intro k
    rcases k with k | k
    · exact absurd h k.1
    · exact k.2
  · intro k
    exact Or.inr ⟨h, k⟩
theorem ahM_diff {mG : TyMG} {mU : TyMU} {p q : Int} (h : ¬ lnM mG mU p = lnM mG mU q) : ahM mG mU p q ↔ lnM mG mU p < lnM mG mU q := by
  unfold ahM
  constructor
  · intro k
    rcases k with k | k
    · exact k.2
    · exact absurd k.1 h
  · intro k
    exact Or.inl ⟨h, k⟩
set_option maxRecDepth 100000 in
theorem m_isAhead {X : AX} (d : Nat) (a : AC49) (mT : TyT) (mG : TyMG) (mR : TyMR) (mU : TyMU) (mP : TyMP) (mO : TyO) (mS : TyMS) (mN : TyMN) (t : AH) (p q : Int) (hp : 0 ≤ p ∧ p < 32) (hq : 0 ≤ q ∧ q < 32) (hG : kG mG) (hU : kU mU) (hp1 : ¬ lnM mG mU p = -1) (hq1 : ¬ lnM mG mU q = -1) :
    AF X (d + 2) 0 0 123 [rf 49, iv p, iv q] (CV a (MH mT mG mR mU mP mO mS mN t)) (some (iv (bI (ahM mG mU p q)))) (CV a (MH mT mG mR mU mP mO mS mN t)) := by
  have hG' := hG
  obtain ⟨g0, g1, g2, g3, g4, g5⟩ := hG'
  have hU' := hU
  obtain ⟨u0, u1, u2, u3⟩ := hU'
  have a1 := g1 (6 * p)
  have a2 := g2 p hp.1 hp.2
  have a3 := g1 (6 * q)
  have a4 := g2 q hq.1 hq.2
  have b1 := u1 (mG.1 (6 * p)) (by omega) (by omega)
  have b2 := u1 (mG.1 (6 * q)) (by omega) (by omega)
  have c1 : lnM mG mU p = mU.1 (mG.1 (6 * p)) := rfl
  have c2 : lnM mG mU q = mU.1 (mG.1 (6 * q)) := rfl
  refine aw_tree (I0_ok X _) [(false, 49), (true, 24)] [32] rfl ?_
  repeat' (first | refine And.intro ?_ ?_ | (refine aImp_e0 ?_; intro _) | (refine aImp_n0 ?_; intro _) | (refine aImp_i ?_; intro _))
  all_goals (try (first | omega | exact bI_01 _ | exact bI_lo _ | exact bI_hi _ | exact bI_hi' _ | exact trivial | exact Or.inl rfl | exact Or.inr rfl | (exfalso; omega)))
  · next he =>
    have e : lnM mG mU p = lnM mG mU q := he
    have hq2 := u2 (lnM mG mU p) (by omega) (by omega)
    show AW X _ 0 0 123 32 [rf 49, iv p, iv q, iv (mU.1 (mG.1 (6 * p))), iv (mU.1 (mG.1 (6 * q))), iv 0, jk] [] (CV a (MH mT mG mR mU mP mO mS mN t)) _
    rw [← he]
    refine m_isAhead_loop d a mT mG mR mU mP mO mS mN t p q (lnM mG mU p) hp hq hG hU (by omega) (mU.2.1 (lnM mG mU p)).toNat 0 _ (by omega) (by omega) ?_
    exact ⟨by rw [bI_congr (ahM_same e)], rfl⟩
  · rw [bI_f (fun h => by have := (ahM_diff (by omega)).mp h; omega)]
  · rfl
  · rw [bI_t ((ahM_diff (by omega)).mpr (by omega))]
  · rfl
/-- the shifting loop of the model's insertion -/
theorem m_orders_shift {X : AX} (d : Nat) (a : AC49) (mT : TyT) (mG : TyMG) (mR : TyMR) (mU : TyMU) (mP : TyMP) (mS : TyMS) (mN : TyMN) (t : AH) (g n : Int) {Q : AQ} (hg : inM mG mU g) (hn : 0 ≤ n ∧ n ≤ g) (hG : kG mG) (hU : kU mU) :
    ∀ (k : Nat) (f : FN), (k : Int) ≤ n → (∀ i, 0 ≤ i → i < k → inM mG mU (f i)) → AW X (d + 3) 0 0 124 52 [rf 49, iv g, jk] [] (CV a (MH mT mG mR mU mP (insF (ahM mG mU) g k f, n + 1) mS mN t)) Q → (∀ z : Int, AW X (d + 3) 0 0 124 52 [rf 49, iv g, iv z] [] (CV a (MH mT mG mR mU mP (insF (ahM mG mU) g k f, n + 1) mS mN t)) Q) → AW X (d + 3) 0 0 124 17 [rf 49, iv g, iv k] [] (CV a (MH mT mG mR mU mP (f, n) mS mN t)) Q := by
  obtain ⟨⟨hg0, hg1⟩, hg2, hg3⟩ := hg
  have hn32 := hG.1
  intro k
  induction k with
  | zero =>
    intro f hk hin _ hQ
    refine aw_tree (I0_ok X _) [(false, 49), (true, 24)] [17, 52] rfl ?_
    repeat' (first | refine And.intro ?_ ?_ | (refine aImp_e0 ?_; intro _) | (refine aImp_n0 ?_; intro _) | (refine aImp_i ?_; intro _))
    all_goals (try (first | omega | exact bI_01 _ | exact bI_lo _ | exact bI_hi _ | exact bI_hi' _ | exact trivial | exact Or.inl rfl | exact Or.inr rfl | (exfalso; omega)))
    exact hQ 0
  | succ k ih =>
    intro f hk hin hQ0 hQ
    obtain ⟨⟨i0, i1⟩, i2, i3⟩ := hin k (by omega) (by omega)
    have ec : ((k + 1 : Nat) : Int) - 1 = k := by omega
    have ec2 : ((k + 1 : Nat) : Int) + -1 = k := by omega
    refine aw_tree (I0_ok X _) [(false, 49), (true, 24)] [17, 52] rfl ?_
    repeat' (first | refine And.intro ?_ ?_ | (refine aImp_e0 ?_; intro _) | (refine aImp_n0 ?_; intro _) | (refine aImp_i ?_; intro _))
    all_goals (try (first | omega | exact bI_01 _ | exact bI_lo _ | exact bI_hi _ | exact bI_hi' _ | exact trivial | exact Or.inl rfl | exact Or.inr rfl | (exfalso; omega)))
    rw [ec]
    refine aw_cf0 (m_isAhead (d + 0) a mT mG mR mU mP (f, n) mS mN t g (f k) (by omega) (by omega) hG hU hg3 i3) rfl ?_
    refine aw_tree (I0_ok X _) [(false, 49), (true, 24)] [17, 52] rfl ?_
    repeat' (first | refine And.intro ?_ ?_ | (refine aImp_e0 ?_; intro _) | (refine aImp_n0 ?_; intro _) | (refine aImp_i ?_; intro _))
    all_goals (try (first | omega | exact bI_01 _ | exact bI_lo _ | exact bI_hi _ | exact bI_hi' _ | exact trivial | exact Or.inl rfl | exact Or.inr rfl | (exfalso; omega)))
    · next hna =>
      have e : insF (ahM mG mU) g (k + 1) f = aUp f ((k : Int) + 1) g := by rw [insF]; exact cif_f hna _ _
      have := hQ ((k + 1 : Nat) : Int)
      rw [e] at this
      exact this
    · next hya =>
      have e : insF (ahM mG mU) g (k + 1) f = insF (ahM mG mU) g k (aUp f ((k : Int) + 1) (f k)) := by rw [insF]; exact cif_t hya _ _
      rw [ec, ec2]
      refine ih (aUp f ((k : Int) + 1) (f k)) (by omega) (fun i h0 h1 => ?_) ?_ ?_
      · rw [aUp_n _ _ (by omega)]; exact hin i h0 (by omega)
      · rw [← e]; exact hQ0
      · rw [← e]; exact hQ

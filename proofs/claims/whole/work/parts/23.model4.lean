noncomputable def ordM (mG : TyMG) (mU : TyMU) (mO : TyO) : TyO := ordF (ahM mG mU) (inM mG mU) mG.2.2.2.toNat (mO.1, 0)
theorem ordM_ok {mG : TyMG} {mU : TyMU} {mO : TyO} (hG : kG mG) : ordI (ahM mG mU) (inM mG mU) (ordM mG mU mO).1 (ordM mG mU mO).2 ∧ (ordM mG mU mO).2 ≤ mG.2.2.2 ∧ ((∃ x, 0 ≤ x ∧ x < mG.2.2.2 ∧ ¬ inM mG mU x) → (ordM mG mU mO).2 < mG.2.2.2) := by
  obtain ⟨h1, h2, h3⟩ := ordF_ok (ahM_sto mG mU) (inM mG mU) mO.1 mG.2.2.2.toNat
  have hn := hG.1
  have e : (mG.2.2.2.toNat : Int) = mG.2.2.2 := by omega
  rw [e] at h2 h3
  refine ⟨ordI_congr h1 (fun x => ?_) (fun _ _ _ _ => Iff.rfl) (fun _ _ _ => rfl), h2, h3⟩
  constructor
  · intro h; exact h.1
  · intro h; exact ⟨h, h.1.1, by have := h.1.2; omega⟩
theorem m_orders_loop {X : AX} (d : Nat) (a : AC49) (mT : TyT) (mG : TyMG) (mR : TyMR) (mU : TyMU) (mP : TyMP) (mS : TyMS) (mN : TyMN) (t : AH) (f0 : FN) {Q : AQ} (hG : kG mG) (hU : kU mU)
    (hQ : Q none (CV a (MH mT mG mR mU mP (ordF (ahM mG mU) (inM mG mU) mG.2.2.2.toNat (f0, 0)) mS mN t))) :
    ∀ (m g : Nat) (v2 : AV), g + m = mG.2.2.2.toNat → AW X (d + 3) 0 0 124 5 [rf 49, iv g, v2] [] (CV a (MH mT mG mR mU mP (ordF (ahM mG mU) (inM mG mU) g (f0, 0)) mS mN t)) Q := by
  have hn := hG.1
  intro m
  induction m with
  | zero =>
    intro g v2 hg
    refine aw_tree (I0_ok X _) [(false, 49), (true, 24)] [5, 17] rfl ?_
    repeat' (first | refine And.intro ?_ ?_ | (refine aImp_e0 ?_; intro _) | (refine aImp_n0 ?_; intro _) | (refine aImp_i ?_; intro _))
    all_goals (try (first | omega | exact bI_01 _ | exact bI_lo _ | exact bI_hi _ | exact bI_hi' _ | exact trivial | exact Or.inl rfl | exact Or.inr rfl | (exfalso; omega)))
    · have e : g = mG.2.2.2.toNat := by omega
      rw [← e] at hQ
      exact hQ
  | succ m ih =>
    intro g v2 hg
    obtain ⟨ho, hle, _⟩ := ordF_ok (ahM_sto mG mU) (inM mG mU) f0 g
    have hc := ho.1
    refine aw_tree (I0_ok X _) [(false, 49), (true, 24)] [5, 17] rfl ?_
    repeat' (first | refine And.intro ?_ ?_ | (refine aImp_e0 ?_; intro _) | (refine aImp_n0 ?_; intro _) | (refine aImp_i ?_; intro _))
    all_goals (try (first | omega | exact bI_01 _ | exact bI_lo _ | exact bI_hi _ | exact bI_hi' _ | exact trivial | exact Or.inl rfl | exact Or.inr rfl | (exfalso; omega)))
    refine aw_cf0 (m_isIn (d + 0) a mT mG mR mU mP _ mS mN t g (by omega) hG hU) rfl ?_
    refine aw_tree (I0_ok X _) [(false, 49), (true, 24)] [5, 17] rfl ?_
    repeat' (first | refine And.intro ?_ ?_ | (refine aImp_e0 ?_; intro _) | (refine aImp_n0 ?_; intro _) | (refine aImp_i ?_; intro _))
    all_goals (try (first | omega | exact bI_01 _ | exact bI_lo _ | exact bI_hi _ | exact bI_hi' _ | exact trivial | exact Or.inl rfl | exact Or.inr rfl | (exfalso; omega)))
    · next hy =>
      have hin : inM mG mU g := ⟨by omega, hy⟩
      have e : ordF (ahM mG mU) (inM mG mU) (g + 1) (f0, 0) = (insF (ahM mG mU) g (ordF (ahM mG mU) (inM mG mU) g (f0, 0)).2.toNat (ordF (ahM mG mU) (inM mG mU) g (f0, 0)).1, (ordF (ahM mG mU) (inM mG mU) g (f0, 0)).2 + 1) := by
        rw [ordF]; exact cif_t hin _ _
      have en : (ordF (ahM mG mU) (inM mG mU) g (f0, 0)).2 = ((ordF (ahM mG mU) (inM mG mU) g (f0, 0)).2.toNat : Int) := by omega
      have main : ∀ v : AV, AW X (d + 3) 0 0 124 52 [rf 49, iv g, v] [] (CV a (MH mT mG mR mU mP (insF (ahM mG mU) g (ordF (ahM mG mU) (inM mG mU) g (f0, 0)).2.toNat (ordF (ahM mG mU) (inM mG mU) g (f0, 0)).1, (ordF (ahM mG mU) (inM mG mU) g (f0, 0)).2 + 1) mS mN t)) Q := by
        intro v
        rw [← e]
        refine aw_tree (I0_ok X _) [(false, 49), (true, 24)] [5] rfl ?_
        exact ih (g + 1) v (by omega)
      have goal := m_orders_shift d a mT mG mR mU mP mS mN t g (ordF (ahM mG mU) (inM mG mU) g (f0, 0)).2 hin (by omega) hG hU (ordF (ahM mG mU) (inM mG mU) g (f0, 0)).2.toNat (ordF (ahM mG mU) (inM mG mU) g (f0, 0)).1 (by omega) (fun i h0 h1 => (ho.2.2.1 i (by omega) (by omega)).1) (main jk) (fun z => main (iv z))
      rw [← en] at goal
      exact goal
    · next hy =>
      have hin : ¬ inM mG mU g := fun h => hy h.2
      have e : ordF (ahM mG mU) (inM mG mU) (g + 1) (f0, 0) = ordF (ahM mG mU) (inM mG mU) g (f0, 0) := by
        rw [ordF]; exact cif_f hin _ _
      have := ih (g + 1) v2 (by omega)
      rw [e] at this
      exact this
theorem m_orders {X : AX} (d : Nat) (a : AC49) (mT : TyT) (mG : TyMG) (mR : TyMR) (mU : TyMU) (mP : TyMP) (mO : TyO) (mS : TyMS) (mN : TyMN) (t : AH) (hG : kG mG) (hU : kU mU) : AF X (d + 3) 0 0 124 [rf 49] (CV a (MH mT mG mR mU mP mO mS mN t)) none (CV a (MH mT mG mR mU mP (ordM mG mU mO) mS mN t)) := by
  refine aw_tree (I0_ok X _) [(false, 49), (true, 24)] [5] rfl ?_
  exact m_orders_loop d a mT mG mR mU mP mS mN t mO.1 hG hU ⟨rfl, rfl⟩ mG.2.2.2.toNat 0 jk (by omega)
theorem m_rank_loop {X : AX} (d : Nat) (a : AC49) (mT : TyT) (mG : TyMG) (mR : TyMR) (mU : TyMU) (mP : TyMP) (mO : TyO) (mS : TyMS) (mN : TyMN) (t : AH) (g n : Int) {Q : AQ} (hg : inR g) (hn : n ≤ 32) (hf : ∀ i, 0 ≤ i → i < n → inR (mO.1 i))
    (hQ : ∀ k, 0 ≤ k → k < n → mO.1 k = g → Q (some (iv k)) (CV a (MH mT mG mR mU mP mO mS mN t))) :
    ∀ (m : Nat) (k : Int), 0 ≤ k → k + m < n → mO.1 (k + m) = g → AW X (d + 2) 0 0 125 14 [rf 49, iv g, iv k] [] (CV a (MH mT mG mR mU mP mO mS mN t)) Q := by
  unfold inR at hg
  intro m
  induction m with
  | zero =>
    intro k k0 k1 hk
    have hfk := hf k k0 (by omega)
    unfold inR at hfk
    simp only [Int.natCast_zero, Int.add_zero] at hk
    refine aw_tree (I0_ok X _) [(false, 49), (true, 24)] [14] rfl ?_
    repeat' (first | refine And.intro ?_ ?_ | (refine aImp_e0 ?_; intro _) | (refine aImp_n0 ?_; intro _) | (refine aImp_i ?_; intro _))
    all_goals (try (first | omega | exact bI_01 _ | exact bI_lo _ | exact bI_hi _ | exact bI_hi' _ | exact trivial | exact Or.inl rfl | exact Or.inr rfl | (exfalso; omega)))
    exact hQ k k0 (by omega) hk
  | succ m ih =>
    intro k k0 k1 hk
    have hfk := hf k k0 (by omega)
    unfold inR at hfk
    refine aw_tree (I0_ok X _) [(false, 49), (true, 24)] [14] rfl ?_
    repeat' (first | refine And.intro ?_ ?_ | (refine aImp_e0 ?_; intro _) | (refine aImp_n0 ?_; intro _) | (refine aImp_i ?_; intro _))
    all_goals (try (first | omega | exact bI_01 _ | exact bI_lo _ | exact bI_hi _ | exact bI_hi' _ | exact trivial | exact Or.inl rfl | exact Or.inr rfl | (exfalso; omega)))
    · next he => exact hQ k k0 (by omega) he
    · refine ih (k + 1) (by omega) (by omega) ?_
      rw [show k + 1 + (m : Int) = k + ((m + 1 : Nat) : Int) from by omega]
      exact hk
theorem m_rank {X : AX} (d : Nat) (a : AC49) (mT : TyT) (mG : TyMG) (mR : TyMR) (mU : TyMU) (mP : TyMP) (mO : TyO) (mS : TyMS) (mN : TyMN) (t : AH) (g : Int) {Q : AQ} (hg : inR g) (hG : kG mG) (hU : kU mU)
    (h1 : ¬ inM mG mU g → Q (some (iv (-1))) (CV a (MH mT mG mR mU mP mO mS mN t)))
    (h2 : inM mG mU g → ∀ k, 0 ≤ k → k < (ordM mG mU mO).2 → (ordM mG mU mO).1 k = g → Q (some (iv k)) (CV a (MH mT mG mR mU mP (ordM mG mU mO) mS mN t))) :
    AW X (d + 5) 0 0 125 0 (aEntry 125 [rf 49, iv g]) [] (CV a (MH mT mG mR mU mP mO mS mN t)) Q := by
  have hn := hG.1
  obtain ⟨ho, hle, _⟩ := ordM_ok (mG := mG) (mU := mU) (mO := mO) hG
  refine aw_tree (I0_ok X _) [(false, 49), (true, 24)] [] rfl ?_
  refine aw_cf0 (m_isGuest _ a mT mG mR mU mP mO mS mN t g hg hn) rfl ?_
  refine aw_tree (I0_ok X _) [(false, 49), (true, 24)] [] rfl ?_
  repeat' (first | refine And.intro ?_ ?_ | (refine aImp_e0 ?_; intro _) | (refine aImp_n0 ?_; intro _) | (refine aImp_i ?_; intro _))
  all_goals (try (first | omega | exact bI_01 _ | exact bI_lo _ | exact bI_hi _ | exact bI_hi' _ | exact trivial | exact Or.inl rfl | exact Or.inr rfl | (exfalso; omega)))
  · next hy => exact h1 (fun h => hy h.1)
  · next hy =>
    refine aw_cf0 (m_isIn _ a mT mG mR mU mP mO mS mN t g (by omega) hG hU) rfl ?_
    refine aw_tree (I0_ok X _) [(false, 49), (true, 24)] [] rfl ?_
    repeat' (first | refine And.intro ?_ ?_ | (refine aImp_e0 ?_; intro _) | (refine aImp_n0 ?_; intro _) | (refine aImp_i ?_; intro _))
    all_goals (try (first | omega | exact bI_01 _ | exact bI_lo _ | exact bI_hi _ | exact bI_hi' _ | exact trivial | exact Or.inl rfl | exact Or.inr rfl | (exfalso; omega)))
    · next hz =>
      refine aw_cf0 (m_orders _ a mT mG mR mU mP mO mS mN t hG hU) rfl ?_
      refine aw_tree (I0_ok X _) [(false, 49), (true, 24)] [14] rfl ?_
      obtain ⟨i, i0, i1, i2⟩ := ho.2.2.2 g ⟨hy, hz⟩
      refine m_rank_loop _ a mT mG mR mU mP (ordM mG mU mO) mS mN t g (ordM mG mU mO).2 hg (by omega) (fun j j0 j1 => ?_) (h2 ⟨hy, hz⟩) i.toNat 0 (by omega) (by omega) ?_
      · have := (ho.2.2.1 j j0 j1).1
        unfold inR
        omega
      · rw [show (0 : Int) + (i.toNat : Int) = i from by omega]
        exact i2
    · next hz => exact h1 (fun h => hz h.2)
theorem m_ranked {X : AX} (d : Nat) (a : AC49) (mT : TyT) (mG : TyMG) (mR : TyMR) (mU : TyMU) (mP : TyMP) (mO : TyO) (mS : TyMS) (mN : TyMN) (t : AH) (i : Int) (hi : inR i) (hG : kG mG) (hU : kU mU) : AF X (d + 5) 0 0 126 [rf 49, iv i] (CV a (MH mT mG mR mU mP mO mS mN t)) (some (iv (if 0 ≤ i ∧ i < (ordM mG mU mO).2 then (ordM mG mU mO).1 i else -1))) (CV a (MH mT mG mR mU mP (ordM mG mU mO) mS mN t)) := by
  have hn := hG.1
  obtain ⟨ho, hle, _⟩ := ordM_ok (mG := mG) (mU := mU) (mO := mO) hG
  have hc := ho.1
  unfold inR at hi
  refine aw_tree (I0_ok X _) [(false, 49), (true, 24)] [] rfl ?_
  refine aw_cf0 (m_orders _ a mT mG mR mU mP mO mS mN t hG hU) rfl ?_
  refine aw_tree (I0_ok X _) [(false, 49), (true, 24)] [] rfl ?_
  repeat' (first | refine And.intro ?_ ?_ | (refine aImp_e0 ?_; intro _) | (refine aImp_n0 ?_; intro _) | (refine aImp_i ?_; intro _))
  all_goals (try (first | omega | exact bI_01 _ | exact bI_lo _ | exact bI_hi _ | exact bI_hi' _ | exact trivial | exact Or.inl rfl | exact Or.inr rfl | (exfalso; omega)))
  all_goals first | rfl | rw [if_pos (by omega)] | rw [if_neg (by omega)]

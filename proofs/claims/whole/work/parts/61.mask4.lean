def lexM (mS : TyMS) (o h : Int) : Prop := mS.1 o < mS.1 h ∨ (mS.1 o = mS.1 h ∧ mS.2.1 o < mS.2.1 h)
noncomputable def ahC (mG : TyMG) (mR : TyMR) (mS : TyMS) (g h : Int) (k : Nat) : Int := smN (fun o => bI (hidM mG mR mS o g mR.2.2.2.2.1 ∧ lexM mS o h)) k
theorem ahC_r {mG : TyMG} {mR : TyMR} {mS : TyMS} {g h : Int} (k : Nat) : 0 ≤ ahC mG mR mS g h k ∧ ahC mG mR mS g h k ≤ k := smN_01 (fun _ => bI_r _) k
theorem m_hider_in {X : AX} (d : Nat) (a : AC49) (mT : TyT) (mG : TyMG) (mR : TyMR) (mU : TyMU) (mP : TyMP) (mO : TyO) (mS : TyMS) (mN : TyMN) (t : AH) (g kk h : Int) {Q : AQ} (hg : 0 ≤ g ∧ g < 32) (hh : 0 ≤ h ∧ h < 32) (hgs : mS.1 g < 6) (hst : 0 ≤ mR.2.2.2.2.1 ∧ mR.2.2.2.2.1 ≤ 300) (hS : kS mS) (hG : kG mG) (hF : ∀ r, 0 ≤ r → r < 6 → (0 ≤ mR.2.1 r ∧ mR.2.1 r ≤ 300) ∧ (0 ≤ mR.2.2.1 r ∧ mR.2.2.1 r ≤ 400))
    (hQ : ∀ v5 : Int, AW X (d + 4) 0 0 140 70 [rf 49, iv g, iv kk, iv h, iv (ahC mG mR mS g h mS.2.2.2.2.2.2.2.2.toNat), iv v5] [] (CV a (MH mT mG mR mU mP mO mS mN t)) Q) :
    ∀ (m k : Nat), k + m = mS.2.2.2.2.2.2.2.2.toNat → AW X (d + 4) 0 0 140 24 [rf 49, iv g, iv kk, iv h, iv (ahC mG mR mS g h k), iv k] [] (CV a (MH mT mG mR mU mP mO mS mN t)) Q := by
  have hS' := hS
  obtain ⟨s1, s2, s3, s4⟩ := hS'
  intro m
  induction m with
  | zero =>
    intro k hk
    have e : k = mS.2.2.2.2.2.2.2.2.toNat := by omega
    have q := hQ k
    rw [← e] at q
    refine aw_tree (I0_ok X _) [(false, 49), (true, 24)] [24, 70] rfl ?_
    repeat' (first | refine And.intro ?_ ?_ | (refine aImp_e0 ?_; intro _) | (refine aImp_n0 ?_; intro _) | (refine aImp_i ?_; intro _))
    all_goals (try (first | omega | exact bI_01 _ | exact bI_lo _ | exact bI_hi _ | exact bI_hi' _ | exact trivial | exact Or.inl rfl | exact Or.inr rfl | (exfalso; omega)))
    exact q
  | succ m ih =>
    intro k hk
    have goal := ih (k + 1) (by omega)
    unfold ahC at goal
    rw [smN] at goal
    have r1 := s1 k
    have r2 := s1 h
    have r3 := s2 k
    have r4 := s2 h
    refine aw_tree (I0_ok X _) [(false, 49), (true, 24)] [24, 70] rfl ?_
    repeat' (first | refine And.intro ?_ ?_ | (refine aImp_e0 ?_; intro _) | (refine aImp_n0 ?_; intro _) | (refine aImp_i ?_; intro _))
    all_goals (try (first | omega | exact bI_01 _ | exact bI_lo _ | exact bI_hi _ | exact bI_hi' _ | exact trivial | exact Or.inl rfl | exact Or.inr rfl | (exfalso; omega)))
    refine aw_cf0 (m_hides _ a mT mG mR mU mP mO mS mN t k g mR.2.2.2.2.1 (by omega) hg hgs hst hS hG hF) rfl ?_
    by_cases q : hidM mG mR mS k g mR.2.2.2.2.1
    · rw [bI_t q]
      by_cases q2 : lexM mS k h
      · rw [bI_t ⟨q, q2⟩] at goal
        unfold lexM at q2
        refine aw_tree (I0_ok X _) [(false, 49), (true, 24)] [24, 70] rfl ?_
        repeat' (first | refine And.intro ?_ ?_ | (refine aImp_e0 ?_; intro _) | (refine aImp_n0 ?_; intro _) | (refine aImp_i ?_; intro _))
        all_goals (try (first | omega | exact bI_01 _ | exact bI_lo _ | exact bI_hi _ | exact bI_hi' _ | exact trivial | exact Or.inl rfl | exact Or.inr rfl | (exfalso; omega)))
        all_goals exact goal
      · rw [bI_f (fun z => q2 z.2)] at goal
        unfold lexM at q2
        refine aw_tree (I0_ok X _) [(false, 49), (true, 24)] [24, 70] rfl ?_
        repeat' (first | refine And.intro ?_ ?_ | (refine aImp_e0 ?_; intro _) | (refine aImp_n0 ?_; intro _) | (refine aImp_i ?_; intro _))
        all_goals (try (first | omega | exact bI_01 _ | exact bI_lo _ | exact bI_hi _ | exact bI_hi' _ | exact trivial | exact Or.inl rfl | exact Or.inr rfl | (exfalso; omega)))
        all_goals exact goal
    · rw [bI_f (fun z => q z.1)] at goal
      rw [bI_f q]
      refine aw_tree (I0_ok X _) [(false, 49), (true, 24)] [24, 70] rfl ?_
      repeat' (first | refine And.intro ?_ ?_ | (refine aImp_e0 ?_; intro _) | (refine aImp_n0 ?_; intro _) | (refine aImp_i ?_; intro _))
      all_goals (try (first | omega | exact bI_01 _ | exact bI_lo _ | exact bI_hi _ | exact bI_hi' _ | exact trivial | exact Or.inl rfl | exact Or.inr rfl | (exfalso; omega)))
      all_goals exact goal
theorem m_hider_loop {X : AX} (d : Nat) (a : AC49) (mT : TyT) (mG : TyMG) (mR : TyMR) (mU : TyMU) (mP : TyMP) (mO : TyO) (mS : TyMS) (mN : TyMN) (t : AH) (g kk : Int) {Q : AQ} (hkk : inR kk) (hg : 0 ≤ g ∧ g < 32) (hgs : mS.1 g < 6) (hst : 0 ≤ mR.2.2.2.2.1 ∧ mR.2.2.2.2.1 ≤ 300) (hS : kS mS) (hG : kG mG) (hF : ∀ r, 0 ≤ r → r < 6 → (0 ≤ mR.2.1 r ∧ mR.2.1 r ≤ 300) ∧ (0 ≤ mR.2.2.1 r ∧ mR.2.2.1 r ≤ 400))
    (h1 : (∀ h, 0 ≤ h → h < mS.2.2.2.2.2.2.2.2 → ¬ (hidM mG mR mS h g mR.2.2.2.2.1 ∧ ahC mG mR mS g h mS.2.2.2.2.2.2.2.2.toNat = kk)) → Q (some (iv (-1))) (CV a (MH mT mG mR mU mP mO mS mN t)))
    (h2 : ∀ h, 0 ≤ h → h < mS.2.2.2.2.2.2.2.2 → hidM mG mR mS h g mR.2.2.2.2.1 → ahC mG mR mS g h mS.2.2.2.2.2.2.2.2.toNat = kk → Q (some (iv h)) (CV a (MH mT mG mR mU mP mO mS mN t))) :
    ∀ (m : Nat) (h : Int) (v4 v5 : AV), h + m = mS.2.2.2.2.2.2.2.2 → 0 ≤ h → (∀ j, 0 ≤ j → j < h → ¬ (hidM mG mR mS j g mR.2.2.2.2.1 ∧ ahC mG mR mS g j mS.2.2.2.2.2.2.2.2.toNat = kk)) → AW X (d + 4) 0 0 140 8 [rf 49, iv g, iv kk, iv h, v4, v5] [] (CV a (MH mT mG mR mU mP mO mS mN t)) Q := by
  have hS' := hS
  obtain ⟨s1, s2, s3, s4⟩ := hS'
  unfold inR at hkk
  intro m
  induction m with
  | zero =>
    intro h v4 v5 hm h0 hno
    refine aw_tree (I0_ok X _) [(false, 49), (true, 24)] [8, 24] rfl ?_
    repeat' (first | refine And.intro ?_ ?_ | (refine aImp_e0 ?_; intro _) | (refine aImp_n0 ?_; intro _) | (refine aImp_i ?_; intro _))
    all_goals (try (first | omega | exact bI_01 _ | exact bI_lo _ | exact bI_hi _ | exact bI_hi' _ | exact trivial | exact Or.inl rfl | exact Or.inr rfl | (exfalso; omega)))
    exact h1 (fun j j0 j1 => hno j j0 (by omega))
  | succ m ih =>
    intro h v4 v5 hm h0 hno
    have hr := ahC_r (mG := mG) (mR := mR) (mS := mS) (g := g) (h := h) mS.2.2.2.2.2.2.2.2.toNat
    have step : ∀ v4 v5 : AV, ¬ (hidM mG mR mS h g mR.2.2.2.2.1 ∧ ahC mG mR mS g h mS.2.2.2.2.2.2.2.2.toNat = kk) → AW X (d + 4) 0 0 140 8 [rf 49, iv g, iv kk, iv (h + 1), v4, v5] [] (CV a (MH mT mG mR mU mP mO mS mN t)) Q := by
      intro v4 v5 hn
      refine ih (h + 1) v4 v5 (by omega) (by omega) (fun j j0 j1 => ?_)
      by_cases e : j = h
      · rw [e]; exact hn
      · exact hno j j0 (by omega)
    refine aw_tree (I0_ok X _) [(false, 49), (true, 24)] [8, 24] rfl ?_
    repeat' (first | refine And.intro ?_ ?_ | (refine aImp_e0 ?_; intro _) | (refine aImp_n0 ?_; intro _) | (refine aImp_i ?_; intro _))
    all_goals (try (first | omega | exact bI_01 _ | exact bI_lo _ | exact bI_hi _ | exact bI_hi' _ | exact trivial | exact Or.inl rfl | exact Or.inr rfl | (exfalso; omega)))
    refine aw_cf0 (m_hides _ a mT mG mR mU mP mO mS mN t h g mR.2.2.2.2.1 (by omega) hg hgs hst hS hG hF) rfl ?_
    by_cases q : hidM mG mR mS h g mR.2.2.2.2.1
    · rw [bI_t q]
      refine aw_tree (I0_ok X _) [(false, 49), (true, 24)] [8, 24] rfl ?_
      repeat' (first | refine And.intro ?_ ?_ | (refine aImp_e0 ?_; intro _) | (refine aImp_n0 ?_; intro _) | (refine aImp_i ?_; intro _))
      all_goals (try (first | omega | exact bI_01 _ | exact bI_lo _ | exact bI_hi _ | exact bI_hi' _ | exact trivial | exact Or.inl rfl | exact Or.inr rfl | (exfalso; omega)))
      refine m_hider_in d a mT mG mR mU mP mO mS mN t g kk h hg (by omega) hgs hst hS hG hF (fun v5 => ?_) mS.2.2.2.2.2.2.2.2.toNat 0 (by omega)
      refine aw_tree (I0_ok X _) [(false, 49), (true, 24)] [8] rfl ?_
      repeat' (first | refine And.intro ?_ ?_ | (refine aImp_e0 ?_; intro _) | (refine aImp_n0 ?_; intro _) | (refine aImp_i ?_; intro _))
      all_goals (try (first | omega | exact bI_01 _ | exact bI_lo _ | exact bI_hi _ | exact bI_hi' _ | exact trivial | exact Or.inl rfl | exact Or.inr rfl | (exfalso; omega)))
      · next hne => exact step _ _ (fun z => hne z.2)
      · next he => exact h2 h h0 (by omega) q (by omega)
    · rw [bI_f q]
      refine aw_tree (I0_ok X _) [(false, 49), (true, 24)] [8, 24] rfl ?_
      repeat' (first | refine And.intro ?_ ?_ | (refine aImp_e0 ?_; intro _) | (refine aImp_n0 ?_; intro _) | (refine aImp_i ?_; intro _))
      all_goals (try (first | omega | exact bI_01 _ | exact bI_lo _ | exact bI_hi _ | exact bI_hi' _ | exact trivial | exact Or.inl rfl | exact Or.inr rfl | (exfalso; omega)))
      exact step _ _ (fun z => q z.1)
theorem m_hider {X : AX} (d : Nat) (a : AC49) (mT : TyT) (mG : TyMG) (mR : TyMR) (mU : TyMU) (mP : TyMP) (mO : TyO) (mS : TyMS) (mN : TyMN) (t : AH) (g kk : Int) {Q : AQ} (hg : inR g) (hkk : inR kk) (hst : 0 ≤ mR.2.2.2.2.1 ∧ mR.2.2.2.2.1 ≤ 300) (hS : kS mS) (hG : kG mG) (hF : ∀ r, 0 ≤ r → r < 6 → (0 ≤ mR.2.1 r ∧ mR.2.1 r ≤ 300) ∧ (0 ≤ mR.2.2.1 r ∧ mR.2.2.1 r ≤ 400))
    (h0 : ¬ satM mS g → Q (some (iv (-1))) (CV a (MH mT mG mR mU mP mO mS mN t)))
    (h1 : satM mS g → (∀ h, 0 ≤ h → h < mS.2.2.2.2.2.2.2.2 → ¬ (hidM mG mR mS h g mR.2.2.2.2.1 ∧ ahC mG mR mS g h mS.2.2.2.2.2.2.2.2.toNat = kk)) → Q (some (iv (-1))) (CV a (MH mT mG mR mU mP mO mS mN t)))
    (h2 : satM mS g → ∀ h, 0 ≤ h → h < mS.2.2.2.2.2.2.2.2 → hidM mG mR mS h g mR.2.2.2.2.1 → ahC mG mR mS g h mS.2.2.2.2.2.2.2.2.toNat = kk → Q (some (iv h)) (CV a (MH mT mG mR mU mP mO mS mN t))) :
    AW X (d + 4) 0 0 140 0 (aEntry 140 [rf 49, iv g, iv kk]) [] (CV a (MH mT mG mR mU mP mO mS mN t)) Q := by
  have hS' := hS
  obtain ⟨s1, s2, s3, s4⟩ := hS'
  refine aw_tree (I0_ok X _) [(false, 49), (true, 24)] [8] rfl ?_
  refine aw_cf0 (m_sat _ a mT mG mR mU mP mO mS mN t g hg s3 s4 s1) rfl ?_
  by_cases hs : satM mS g
  · rw [bI_t hs]
    have hs' := hs
    obtain ⟨c1, c2, c3, c4⟩ := hs'
    refine aw_tree (I0_ok X _) [(false, 49), (true, 24)] [8] rfl ?_
    repeat' (first | refine And.intro ?_ ?_ | (refine aImp_e0 ?_; intro _) | (refine aImp_n0 ?_; intro _) | (refine aImp_i ?_; intro _))
    all_goals (try (first | omega | exact bI_01 _ | exact bI_lo _ | exact bI_hi _ | exact bI_hi' _ | exact trivial | exact Or.inl rfl | exact Or.inr rfl | (exfalso; omega)))
    exact m_hider_loop d a mT mG mR mU mP mO mS mN t g kk hkk (by omega) c4 hst hS hG hF (h1 hs) (h2 hs) mS.2.2.2.2.2.2.2.2.toNat 0 jk jk (by omega) (by omega) (fun j a b => by omega)
  · rw [bI_f hs]
    refine aw_tree (I0_ok X _) [(false, 49), (true, 24)] [8] rfl ?_
    repeat' (first | refine And.intro ?_ ?_ | (refine aImp_e0 ?_; intro _) | (refine aImp_n0 ?_; intro _) | (refine aImp_i ?_; intro _))
    all_goals (try (first | omega | exact bI_01 _ | exact bI_lo _ | exact bI_hi _ | exact bI_hi' _ | exact trivial | exact Or.inl rfl | exact Or.inr rfl | (exfalso; omega)))
    all_goals exact h0 hs

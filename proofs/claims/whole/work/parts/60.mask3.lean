theorem smN_01 {e : Int → Int} (h : ∀ k, 0 ≤ e k ∧ e k ≤ 1) : ∀ k : Nat, 0 ≤ smN e k ∧ smN e k ≤ k := by
  intro k
  induction k with
  | zero => rw [smN]; omega
  | succ k ih => rw [smN]; have := h k; push_cast; omega
/-- how many hide the stage from g -/
noncomputable def hcM (mG : TyMG) (mR : TyMR) (mS : TyMS) (g high : Int) (k : Nat) : Int := smN (fun h => bI (hidM mG mR mS h g high)) k
theorem hcM_r {mG : TyMG} {mR : TyMR} {mS : TyMS} {g high : Int} (k : Nat) : 0 ≤ hcM mG mR mS g high k ∧ hcM mG mR mS g high k ≤ k := smN_01 (fun _ => bI_r _) k
theorem m_hidden_loop {X : AX} (d : Nat) (a : AC49) (mT : TyT) (mG : TyMG) (mR : TyMR) (mU : TyMU) (mP : TyMP) (mO : TyO) (mS : TyMS) (mN : TyMN) (t : AH) (g : Int) {Q : AQ} (hg : 0 ≤ g ∧ g < 32) (hgs : mS.1 g < 6) (hst : 0 ≤ mR.2.2.2.2.1 ∧ mR.2.2.2.2.1 ≤ 300) (hS : kS mS) (hG : kG mG) (hF : ∀ r, 0 ≤ r → r < 6 → (0 ≤ mR.2.1 r ∧ mR.2.1 r ≤ 300) ∧ (0 ≤ mR.2.2.1 r ∧ mR.2.2.1 r ≤ 400))
    (hQ : Q (some (iv (hcM mG mR mS g mR.2.2.2.2.1 mS.2.2.2.2.2.2.2.2.toNat))) (CV a (MH mT mG mR mU mP mO mS mN t))) :
    ∀ (m k : Nat), k + m = mS.2.2.2.2.2.2.2.2.toNat → AW X (d + 4) 0 0 139 10 [rf 49, iv g, iv (hcM mG mR mS g mR.2.2.2.2.1 k), iv k] [] (CV a (MH mT mG mR mU mP mO mS mN t)) Q := by
  have hS' := hS
  obtain ⟨s1, s2, s3, s4⟩ := hS'
  intro m
  induction m with
  | zero =>
    intro k hk
    have e : k = mS.2.2.2.2.2.2.2.2.toNat := by omega
    rw [← e] at hQ
    refine aw_tree (I0_ok X _) [(false, 49), (true, 24)] [10] rfl ?_
    repeat' (first | refine And.intro ?_ ?_ | (refine aImp_e0 ?_; intro _) | (refine aImp_n0 ?_; intro _) | (refine aImp_i ?_; intro _))
    all_goals (try (first | omega | exact bI_01 _ | exact bI_lo _ | exact bI_hi _ | exact bI_hi' _ | exact trivial | exact Or.inl rfl | exact Or.inr rfl | (exfalso; omega)))
    exact hQ
  | succ m ih =>
    intro k hk
    have goal := ih (k + 1) (by omega)
    unfold hcM at goal
    rw [smN] at goal
    refine aw_tree (I0_ok X _) [(false, 49), (true, 24)] [10] rfl ?_
    repeat' (first | refine And.intro ?_ ?_ | (refine aImp_e0 ?_; intro _) | (refine aImp_n0 ?_; intro _) | (refine aImp_i ?_; intro _))
    all_goals (try (first | omega | exact bI_01 _ | exact bI_lo _ | exact bI_hi _ | exact bI_hi' _ | exact trivial | exact Or.inl rfl | exact Or.inr rfl | (exfalso; omega)))
    refine aw_cf0 (m_hides _ a mT mG mR mU mP mO mS mN t k g mR.2.2.2.2.1 (by omega) hg hgs hst hS hG hF) rfl ?_
    by_cases q : hidM mG mR mS k g mR.2.2.2.2.1
    · rw [bI_t q] at goal ⊢
      refine aw_tree (I0_ok X _) [(false, 49), (true, 24)] [10] rfl ?_
      repeat' (first | refine And.intro ?_ ?_ | (refine aImp_e0 ?_; intro _) | (refine aImp_n0 ?_; intro _) | (refine aImp_i ?_; intro _))
      all_goals (try (first | omega | exact bI_01 _ | exact bI_lo _ | exact bI_hi _ | exact bI_hi' _ | exact trivial | exact Or.inl rfl | exact Or.inr rfl | (exfalso; omega)))
      exact goal
    · rw [bI_f q] at goal ⊢
      refine aw_tree (I0_ok X _) [(false, 49), (true, 24)] [10] rfl ?_
      repeat' (first | refine And.intro ?_ ?_ | (refine aImp_e0 ?_; intro _) | (refine aImp_n0 ?_; intro _) | (refine aImp_i ?_; intro _))
      all_goals (try (first | omega | exact bI_01 _ | exact bI_lo _ | exact bI_hi _ | exact bI_hi' _ | exact trivial | exact Or.inl rfl | exact Or.inr rfl | (exfalso; omega)))
      exact goal
theorem m_hidden {X : AX} (d : Nat) (a : AC49) (mT : TyT) (mG : TyMG) (mR : TyMR) (mU : TyMU) (mP : TyMP) (mO : TyO) (mS : TyMS) (mN : TyMN) (t : AH) (g : Int) (hg : inR g) (hst : 0 ≤ mR.2.2.2.2.1 ∧ mR.2.2.2.2.1 ≤ 300) (hS : kS mS) (hG : kG mG) (hF : ∀ r, 0 ≤ r → r < 6 → (0 ≤ mR.2.1 r ∧ mR.2.1 r ≤ 300) ∧ (0 ≤ mR.2.2.1 r ∧ mR.2.2.1 r ≤ 400)) :
    AF X (d + 4) 0 0 139 [rf 49, iv g] (CV a (MH mT mG mR mU mP mO mS mN t)) (some (iv (cif (satM mS g) (hcM mG mR mS g mR.2.2.2.2.1 mS.2.2.2.2.2.2.2.2.toNat) (-1)))) (CV a (MH mT mG mR mU mP mO mS mN t)) := by
  have hS' := hS
  obtain ⟨s1, s2, s3, s4⟩ := hS'
  refine aw_tree (I0_ok X _) [(false, 49), (true, 24)] [10] rfl ?_
  refine aw_cf0 (m_sat _ a mT mG mR mU mP mO mS mN t g hg s3 s4 s1) rfl ?_
  by_cases hs : satM mS g
  · rw [bI_t hs, cif_t hs]
    obtain ⟨c1, c2, c3, c4⟩ := hs
    refine aw_tree (I0_ok X _) [(false, 49), (true, 24)] [10] rfl ?_
    repeat' (first | refine And.intro ?_ ?_ | (refine aImp_e0 ?_; intro _) | (refine aImp_n0 ?_; intro _) | (refine aImp_i ?_; intro _))
    all_goals (try (first | omega | exact bI_01 _ | exact bI_lo _ | exact bI_hi _ | exact bI_hi' _ | exact trivial | exact Or.inl rfl | exact Or.inr rfl | (exfalso; omega)))
    exact m_hidden_loop d a mT mG mR mU mP mO mS mN t g (by omega) c4 hst hS hG hF ⟨rfl, rfl⟩ mS.2.2.2.2.2.2.2.2.toNat 0 (by omega)
  · rw [bI_f hs, cif_f hs]
    refine aw_tree (I0_ok X _) [(false, 49), (true, 24)] [10] rfl ?_
    repeat' (first | refine And.intro ?_ ?_ | (refine aImp_e0 ?_; intro _) | (refine aImp_n0 ?_; intro _) | (refine aImp_i ?_; intro _))
    all_goals (try (first | omega | exact bI_01 _ | exact bI_lo _ | exact bI_hi _ | exact bI_hi' _ | exact trivial | exact Or.inl rfl | exact Or.inr rfl | (exfalso; omega)))
    all_goals rfl
/-- the model's stage: the inner count -/
theorem m_stage_in {X : AX} (d : Nat) (a : AC49) (mT : TyT) (mG : TyMG) (mR : TyMR) (mU : TyMU) (mP : TyMP) (mO : TyO) (mS : TyMS) (mN : TyMN) (t : AH) (g high : Int) {Q : AQ} (hg : 0 ≤ g ∧ g < 32) (hgs : mS.1 g < 6) (hst : 0 ≤ high ∧ high ≤ 300) (hS : kS mS) (hG : kG mG) (hF : ∀ r, 0 ≤ r → r < 6 → (0 ≤ mR.2.1 r ∧ mR.2.1 r ≤ 300) ∧ (0 ≤ mR.2.2.1 r ∧ mR.2.2.1 r ≤ 400))
    (hQ : ∀ v4 : Int, AW X (d + 4) 0 0 141 33 [rf 49, iv g, iv high, iv (hcM mG mR mS g high mS.2.2.2.2.2.2.2.2.toNat), iv v4] [] (CV a (MH mT mG mR mU mP mO mS mN t)) Q) :
    ∀ (m k : Nat), k + m = mS.2.2.2.2.2.2.2.2.toNat → AW X (d + 4) 0 0 141 15 [rf 49, iv g, iv high, iv (hcM mG mR mS g high k), iv k] [] (CV a (MH mT mG mR mU mP mO mS mN t)) Q := by
  have hS' := hS
  obtain ⟨s1, s2, s3, s4⟩ := hS'
  intro m
  induction m with
  | zero =>
    intro k hk
    have e : k = mS.2.2.2.2.2.2.2.2.toNat := by omega
    have q := hQ k
    rw [← e] at q
    refine aw_tree (I0_ok X _) [(false, 49), (true, 24)] [15, 33] rfl ?_
    repeat' (first | refine And.intro ?_ ?_ | (refine aImp_e0 ?_; intro _) | (refine aImp_n0 ?_; intro _) | (refine aImp_i ?_; intro _))
    all_goals (try (first | omega | exact bI_01 _ | exact bI_lo _ | exact bI_hi _ | exact bI_hi' _ | exact trivial | exact Or.inl rfl | exact Or.inr rfl | (exfalso; omega)))
    exact q
  | succ m ih =>
    intro k hk
    have goal := ih (k + 1) (by omega)
    unfold hcM at goal
    rw [smN] at goal
    refine aw_tree (I0_ok X _) [(false, 49), (true, 24)] [15, 33] rfl ?_
    repeat' (first | refine And.intro ?_ ?_ | (refine aImp_e0 ?_; intro _) | (refine aImp_n0 ?_; intro _) | (refine aImp_i ?_; intro _))
    all_goals (try (first | omega | exact bI_01 _ | exact bI_lo _ | exact bI_hi _ | exact bI_hi' _ | exact trivial | exact Or.inl rfl | exact Or.inr rfl | (exfalso; omega)))
    refine aw_cf0 (m_hides _ a mT mG mR mU mP mO mS mN t k g high (by omega) hg hgs hst hS hG hF) rfl ?_
    by_cases q : hidM mG mR mS k g high
    · rw [bI_t q] at goal ⊢
      refine aw_tree (I0_ok X _) [(false, 49), (true, 24)] [15, 33] rfl ?_
      repeat' (first | refine And.intro ?_ ?_ | (refine aImp_e0 ?_; intro _) | (refine aImp_n0 ?_; intro _) | (refine aImp_i ?_; intro _))
      all_goals (try (first | omega | exact bI_01 _ | exact bI_lo _ | exact bI_hi _ | exact bI_hi' _ | exact trivial | exact Or.inl rfl | exact Or.inr rfl | (exfalso; omega)))
      exact goal
    · rw [bI_f q] at goal ⊢
      refine aw_tree (I0_ok X _) [(false, 49), (true, 24)] [15, 33] rfl ?_
      repeat' (first | refine And.intro ?_ ?_ | (refine aImp_e0 ?_; intro _) | (refine aImp_n0 ?_; intro _) | (refine aImp_i ?_; intro _))
      all_goals (try (first | omega | exact bI_01 _ | exact bI_lo _ | exact bI_hi _ | exact bI_hi' _ | exact trivial | exact Or.inl rfl | exact Or.inr rfl | (exfalso; omega)))
      exact goal
theorem m_stage_loop {X : AX} (d : Nat) (a : AC49) (mT : TyT) (mG : TyMG) (mR : TyMR) (mU : TyMU) (mP : TyMP) (mO : TyO) (mS : TyMS) (mN : TyMN) (t : AH) (g : Int) {Q : AQ} (hg : 0 ≤ g ∧ g < 32) (hgs : mS.1 g < 6) (hS : kS mS) (hG : kG mG) (hF : ∀ r, 0 ≤ r → r < 6 → (0 ≤ mR.2.1 r ∧ mR.2.1 r ≤ 300) ∧ (0 ≤ mR.2.2.1 r ∧ mR.2.2.1 r ≤ 400))
    (h1 : (∀ high, 0 ≤ high → high ≤ 300 → ¬ hcM mG mR mS g high mS.2.2.2.2.2.2.2.2.toNat = 0) → Q (some (iv (-1))) (CV a (MH mT mG mR mU mP mO mS mN t)))
    (h2 : ∀ high, 0 ≤ high → high ≤ 300 → hcM mG mR mS g high mS.2.2.2.2.2.2.2.2.toNat = 0 → (∀ j, 0 ≤ j → j < high → ¬ hcM mG mR mS g j mS.2.2.2.2.2.2.2.2.toNat = 0) → Q (some (iv high)) (CV a (MH mT mG mR mU mP mO mS mN t))) :
    ∀ (m : Nat) (high : Int) (v3 v4 : AV), high + m = 301 → 0 ≤ high → (∀ j, 0 ≤ j → j < high → ¬ hcM mG mR mS g j mS.2.2.2.2.2.2.2.2.toNat = 0) → AW X (d + 4) 0 0 141 8 [rf 49, iv g, iv high, v3, v4] [] (CV a (MH mT mG mR mU mP mO mS mN t)) Q := by
  have hS' := hS
  obtain ⟨s1, s2, s3, s4⟩ := hS'
  intro m
  induction m with
  | zero =>
    intro high v3 v4 hm h0 hno
    refine aw_tree (I0_ok X _) [(false, 49), (true, 24)] [15, 8] rfl ?_
    repeat' (first | refine And.intro ?_ ?_ | (refine aImp_e0 ?_; intro _) | (refine aImp_n0 ?_; intro _) | (refine aImp_i ?_; intro _))
    all_goals (try (first | omega | exact bI_01 _ | exact bI_lo _ | exact bI_hi _ | exact bI_hi' _ | exact trivial | exact Or.inl rfl | exact Or.inr rfl | (exfalso; omega)))
    exact h1 (fun j j0 j1 => hno j j0 (by omega))
  | succ m ih =>
    intro high v3 v4 hm h0 hno
    have hr := hcM_r (mG := mG) (mR := mR) (mS := mS) (g := g) (high := high) mS.2.2.2.2.2.2.2.2.toNat
    refine aw_tree (I0_ok X _) [(false, 49), (true, 24)] [15, 8] rfl ?_
    repeat' (first | refine And.intro ?_ ?_ | (refine aImp_e0 ?_; intro _) | (refine aImp_n0 ?_; intro _) | (refine aImp_i ?_; intro _))
    all_goals (try (first | omega | exact bI_01 _ | exact bI_lo _ | exact bI_hi _ | exact bI_hi' _ | exact trivial | exact Or.inl rfl | exact Or.inr rfl | (exfalso; omega)))
    refine m_stage_in d a mT mG mR mU mP mO mS mN t g high hg hgs (by omega) hS hG hF (fun v4 => ?_) mS.2.2.2.2.2.2.2.2.toNat 0 (by omega)
    refine aw_tree (I0_ok X _) [(false, 49), (true, 24)] [8] rfl ?_
    repeat' (first | refine And.intro ?_ ?_ | (refine aImp_e0 ?_; intro _) | (refine aImp_n0 ?_; intro _) | (refine aImp_i ?_; intro _))
    all_goals (try (first | omega | exact bI_01 _ | exact bI_lo _ | exact bI_hi _ | exact bI_hi' _ | exact trivial | exact Or.inl rfl | exact Or.inr rfl | (exfalso; omega)))
    · next hne =>
      refine ih (high + 1) _ _ (by omega) (by omega) (fun j j0 j1 => ?_)
      by_cases e : j = high
      · rw [e]; exact hne
      · exact hno j j0 (by omega)
    · next he => exact h2 high h0 (by omega) he hno
theorem m_stage {X : AX} (d : Nat) (a : AC49) (mT : TyT) (mG : TyMG) (mR : TyMR) (mU : TyMU) (mP : TyMP) (mO : TyO) (mS : TyMS) (mN : TyMN) (t : AH) (g : Int) {Q : AQ} (hg : inR g) (hS : kS mS) (hG : kG mG) (hF : ∀ r, 0 ≤ r → r < 6 → (0 ≤ mR.2.1 r ∧ mR.2.1 r ≤ 300) ∧ (0 ≤ mR.2.2.1 r ∧ mR.2.2.1 r ≤ 400))
    (h0 : ¬ satM mS g → Q (some (iv (-1))) (CV a (MH mT mG mR mU mP mO mS mN t)))
    (h1 : satM mS g → (∀ high, 0 ≤ high → high ≤ 300 → ¬ hcM mG mR mS g high mS.2.2.2.2.2.2.2.2.toNat = 0) → Q (some (iv (-1))) (CV a (MH mT mG mR mU mP mO mS mN t)))
    (h2 : satM mS g → ∀ high, 0 ≤ high → high ≤ 300 → hcM mG mR mS g high mS.2.2.2.2.2.2.2.2.toNat = 0 → (∀ j, 0 ≤ j → j < high → ¬ hcM mG mR mS g j mS.2.2.2.2.2.2.2.2.toNat = 0) → Q (some (iv high)) (CV a (MH mT mG mR mU mP mO mS mN t))) :
    AW X (d + 4) 0 0 141 0 (aEntry 141 [rf 49, iv g]) [] (CV a (MH mT mG mR mU mP mO mS mN t)) Q := by
  have hS' := hS
  obtain ⟨s1, s2, s3, s4⟩ := hS'
  refine aw_tree (I0_ok X _) [(false, 49), (true, 24)] [8] rfl ?_
  refine aw_cf0 (m_sat _ a mT mG mR mU mP mO mS mN t g hg s3 s4 s1) rfl ?_
  by_cases hs : satM mS g
  · rw [bI_t hs]
    have hs' := hs
    obtain ⟨c1, c2, c3, c4⟩ := hs'
    refine aw_tree (I0_ok X _) [(false, 49), (true, 24)] [8] rfl ?_
    repeat' (first | refine And.intro ?_ ?_ | (refine aImp_e0 ?_; intro _) | (refine aImp_n0 ?_; intro _) | (refine aImp_i ?_; intro _))
    all_goals (try (first | omega | exact bI_01 _ | exact bI_lo _ | exact bI_hi _ | exact bI_hi' _ | exact trivial | exact Or.inl rfl | exact Or.inr rfl | (exfalso; omega)))
    exact m_stage_loop d a mT mG mR mU mP mO mS mN t g (by omega) c4 hS hG hF (h1 hs) (h2 hs) 301 0 jk jk (by omega) (by omega) (fun j a b => by omega)
  · rw [bI_f hs]
    refine aw_tree (I0_ok X _) [(false, 49), (true, 24)] [8] rfl ?_
    repeat' (first | refine And.intro ?_ ?_ | (refine aImp_e0 ?_; intro _) | (refine aImp_n0 ?_; intro _) | (refine aImp_i ?_; intro _))
    all_goals (try (first | omega | exact bI_01 _ | exact bI_lo _ | exact bI_hi _ | exact bI_hi' _ | exact trivial | exact Or.inl rfl | exact Or.inr rfl | (exfalso; omega)))
    all_goals exact h0 hs

theorem m_mor_some {X : AX} (d : Nat) (a : AC49) (mT : TyT) (mG : TyMG) (mR : TyMR) (mU : TyMU) (mP : TyMP) (mO : TyO) (mS : TyMS) (mN : TyMN) (t : AH) (n sh : Int) {Q : AQ} (hS : kS mS)
    (hQ : ∀ v4 : Int, AW X (d + 3) 0 0 142 20 [rf 49, iv n, iv sh, iv (smN (fun g => bI (satM mS g)) mS.2.2.2.2.2.2.2.2.toNat), iv v4, jk, jk, jk, jk, jk, jk] [] (CV a (MH mT mG mR mU mP mO mS mN t)) Q) :
    ∀ (m k : Nat), k + m = mS.2.2.2.2.2.2.2.2.toNat → AW X (d + 3) 0 0 142 4 [rf 49, iv n, iv sh, iv (smN (fun g => bI (satM mS g)) k), iv k, jk, jk, jk, jk, jk, jk] [] (CV a (MH mT mG mR mU mP mO mS mN t)) Q := by
  obtain ⟨s1, s2, s3, s4⟩ := hS
  intro m
  induction m with
  | zero =>
    intro k hk
    have e : k = mS.2.2.2.2.2.2.2.2.toNat := by omega
    have q := hQ k
    rw [← e] at q
    refine aw_tree (I0_ok X _) [(false, 49), (true, 24)] [4, 20] rfl ?_
    repeat' (first | refine And.intro ?_ ?_ | (refine aImp_e0 ?_; intro _) | (refine aImp_n0 ?_; intro _) | (refine aImp_i ?_; intro _))
    all_goals (try (first | omega | exact bI_01 _ | exact bI_lo _ | exact bI_hi _ | exact bI_hi' _ | exact trivial | exact Or.inl rfl | exact Or.inr rfl | (exfalso; omega)))
    exact q
  | succ m ih =>
    intro k hk
    have goal := ih (k + 1) (by omega)
    rw [smN] at goal
    refine aw_tree (I0_ok X _) [(false, 49), (true, 24)] [4, 20] rfl ?_
    repeat' (first | refine And.intro ?_ ?_ | (refine aImp_e0 ?_; intro _) | (refine aImp_n0 ?_; intro _) | (refine aImp_i ?_; intro _))
    all_goals (try (first | omega | exact bI_01 _ | exact bI_lo _ | exact bI_hi _ | exact bI_hi' _ | exact trivial | exact Or.inl rfl | exact Or.inr rfl | (exfalso; omega)))
    refine aw_cf0 (m_sat _ a mT mG mR mU mP mO mS mN t k (by unfold inR; omega) s3 s4 s1) rfl ?_
    by_cases hs : satM mS k
    · rw [bI_t hs] at goal ⊢
      refine aw_tree (I0_ok X _) [(false, 49), (true, 24)] [4, 20] rfl ?_
      repeat' (first | refine And.intro ?_ ?_ | (refine aImp_e0 ?_; intro _) | (refine aImp_n0 ?_; intro _) | (refine aImp_i ?_; intro _))
      all_goals (try (first | omega | exact bI_01 _ | exact bI_lo _ | exact bI_hi _ | exact bI_hi' _ | exact trivial | exact Or.inl rfl | exact Or.inr rfl | (exfalso; omega)))
      exact goal
    · rw [bI_f hs] at goal ⊢
      refine aw_tree (I0_ok X _) [(false, 49), (true, 24)] [4, 20] rfl ?_
      repeat' (first | refine And.intro ?_ ?_ | (refine aImp_e0 ?_; intro _) | (refine aImp_n0 ?_; intro _) | (refine aImp_i ?_; intro _))
      all_goals (try (first | omega | exact bI_01 _ | exact bI_lo _ | exact bI_hi _ | exact bI_hi' _ | exact trivial | exact Or.inl rfl | exact Or.inr rfl | (exfalso; omega)))
      exact goal
theorem m_mor_fw {X : AX} (d : Nat) (a : AC49) (mT : TyT) (mG : TyMG) (mR : TyMR) (mU : TyMU) (mP : TyMP) (mO : TyO) (mS : TyMS) (mo go wo gt : FN) (x1 x2 : Int) (t : AH) (n sh so : Int) {Q : AQ}
    (hQ : AW X (d + 3) 0 0 142 53 [rf 49, iv n, iv sh, iv so, iv 32, jk, jk, jk, jk, jk, jk] [] (CV a (MH mT mG mR mU mP mO mS (mo, go, fil wo (-1) 32, gt, x1, x2) t)) Q) :
    ∀ (m k : Nat), k + m = 32 → AW X (d + 3) 0 0 142 43 [rf 49, iv n, iv sh, iv so, iv k, jk, jk, jk, jk, jk, jk] [] (CV a (MH mT mG mR mU mP mO mS (mo, go, fil wo (-1) k, gt, x1, x2) t)) Q := by
  intro m
  induction m with
  | zero =>
    intro k hk
    have e : k = 32 := by omega
    subst e
    refine aw_tree (I0_ok X _) [(false, 49), (true, 24)] [43, 53] rfl ?_
    dsimp only
    repeat' (first | refine And.intro ?_ ?_ | (refine aImp_e0 ?_; intro _) | (refine aImp_n0 ?_; intro _) | (refine aImp_i ?_; intro _))
    all_goals (try (first | omega | exact bI_01 _ | exact bI_lo _ | exact bI_hi _ | exact bI_hi' _ | exact trivial | exact Or.inl rfl | exact Or.inr rfl | (exfalso; omega)))
    exact hQ
  | succ m ih =>
    intro k hk
    refine aw_tree (I0_ok X _) [(false, 49), (true, 24)] [43, 53] rfl ?_
    dsimp only
    repeat' (first | refine And.intro ?_ ?_ | (refine aImp_e0 ?_; intro _) | (refine aImp_n0 ?_; intro _) | (refine aImp_i ?_; intro _))
    all_goals (try (first | omega | exact bI_01 _ | exact bI_lo _ | exact bI_hi _ | exact bI_hi' _ | exact trivial | exact Or.inl rfl | exact Or.inr rfl | (exfalso; omega)))
    exact ih (k + 1) (by omega)
theorem m_mor_fg {X : AX} (d : Nat) (a : AC49) (mT : TyT) (mG : TyMG) (mR : TyMR) (mU : TyMU) (mP : TyMP) (mO : TyO) (mS : TyMS) (mo go wo gt : FN) (x1 x2 : Int) (t : AH) (n sh so : Int) {Q : AQ}
    (hQ : AW X (d + 3) 0 0 142 65 [rf 49, iv n, iv sh, iv so, iv 4, jk, jk, jk, jk, jk, jk] [] (CV a (MH mT mG mR mU mP mO mS (mo, go, wo, fil gt 0 4, x1, x2) t)) Q) :
    ∀ (m k : Nat), k + m = 4 → AW X (d + 3) 0 0 142 55 [rf 49, iv n, iv sh, iv so, iv k, jk, jk, jk, jk, jk, jk] [] (CV a (MH mT mG mR mU mP mO mS (mo, go, wo, fil gt 0 k, x1, x2) t)) Q := by
  intro m
  induction m with
  | zero =>
    intro k hk
    have e : k = 4 := by omega
    subst e
    refine aw_tree (I0_ok X _) [(false, 49), (true, 24)] [55, 65] rfl ?_
    dsimp only
    repeat' (first | refine And.intro ?_ ?_ | (refine aImp_e0 ?_; intro _) | (refine aImp_n0 ?_; intro _) | (refine aImp_i ?_; intro _))
    all_goals (try (first | omega | exact bI_01 _ | exact bI_lo _ | exact bI_hi _ | exact bI_hi' _ | exact trivial | exact Or.inl rfl | exact Or.inr rfl | (exfalso; omega)))
    exact hQ
  | succ m ih =>
    intro k hk
    refine aw_tree (I0_ok X _) [(false, 49), (true, 24)] [55, 65] rfl ?_
    dsimp only
    repeat' (first | refine And.intro ?_ ?_ | (refine aImp_e0 ?_; intro _) | (refine aImp_n0 ?_; intro _) | (refine aImp_i ?_; intro _))
    all_goals (try (first | omega | exact bI_01 _ | exact bI_lo _ | exact bI_hi _ | exact bI_hi' _ | exact trivial | exact Or.inl rfl | exact Or.inr rfl | (exfalso; omega)))
    exact ih (k + 1) (by omega)
/-- who comes next -/
noncomputable def selM (mS : TyMS) (wo : FN) : Nat → Int
  | 0 => -1
  | k + 1 => cif ((satM mS k ∧ wo k = -1) ∧ (selM mS wo k = -1 ∨ lexM mS (selM mS wo k) k)) (k : Int) (selM mS wo k)
theorem selM_r {mS : TyMS} {wo : FN} : ∀ (k : Nat), -1 ≤ selM mS wo k ∧ selM mS wo k < k := by
  intro k
  induction k with
  | zero => rw [selM]; omega
  | succ k ih =>
    rw [selM]
    by_cases h : (satM mS k ∧ wo k = -1) ∧ (selM mS wo k = -1 ∨ lexM mS (selM mS wo k) k)
    · rw [cif_t h]; omega
    · rw [cif_f h]; omega
theorem selM_at {mS : TyMS} {wo : FN} {x : Int} (hx : satM mS x ∧ wo x = -1) (hm : ∀ g, satM mS g → wo g = -1 → g ≠ x → lexM mS g x) : ∀ (k : Nat), ((k : Int) ≤ x → selM mS wo k = -1 ∨ (satM mS (selM mS wo k) ∧ wo (selM mS wo k) = -1)) ∧ (x < k → selM mS wo k = x) := by
  intro k
  have hx0 := hx.1.2.1
  induction k with
  | zero => exact ⟨fun _ => Or.inl rfl, fun h => by push_cast at h; omega⟩
  | succ k ih =>
    rw [selM]
    have hr := selM_r (mS := mS) (wo := wo) k
    refine ⟨fun h => ?_, fun h => ?_⟩
    · by_cases c : (satM mS k ∧ wo k = -1) ∧ (selM mS wo k = -1 ∨ lexM mS (selM mS wo k) k)
      · rw [cif_t c]; exact Or.inr c.1
      · rw [cif_f c]; exact ih.1 (by push_cast at h; omega)
    · by_cases e : (k : Int) = x
      · have hc : selM mS wo k = -1 ∨ lexM mS (selM mS wo k) k := by
          rcases ih.1 (by omega) with q | ⟨q1, q2⟩
          · exact Or.inl q
          · right
            rw [e]
            exact hm _ q1 q2 (by omega)
        rw [cif_t ⟨by rw [e]; exact hx, hc⟩, e]
      · have h2 := ih.2 (by push_cast at h; omega)
        rw [cif_f (fun c => ?_), h2]
        rw [h2] at c
        rcases c.2 with q | q
        · omega
        · exact lex_as q (hm k c.1.1 c.1.2 e)
set_option maxRecDepth 100000 in
theorem m_mor_sel {X : AX} (d : Nat) (a : AC49) (mT : TyT) (mG : TyMG) (mR : TyMR) (mU : TyMU) (mP : TyMP) (mO : TyO) (mS : TyMS) (mN : TyMN) (t : AH) (n sh so mi en kk : Int) (v9 v10 : AV) {Q : AQ} (hS : kS mS) (hwo : ∀ g, 0 ≤ g → g < 32 → -1 ≤ mN.2.2.1 g ∧ mN.2.2.1 g ≤ 32)
    (hQ : ∀ v8 : Int, AW X (d + 3) 0 0 142 127 [rf 49, iv n, iv sh, iv so, iv mi, iv en, iv kk, iv (selM mS mN.2.2.1 mS.2.2.2.2.2.2.2.2.toNat), iv v8, v9, v10] [] (CV a (MH mT mG mR mU mP mO mS mN t)) Q) :
    ∀ (m k : Nat), k + m = mS.2.2.2.2.2.2.2.2.toNat → AW X (d + 3) 0 0 142 78 [rf 49, iv n, iv sh, iv so, iv mi, iv en, iv kk, iv (selM mS mN.2.2.1 k), iv k, v9, v10] [] (CV a (MH mT mG mR mU mP mO mS mN t)) Q := by
  obtain ⟨s1, s2, s3, s4⟩ := hS
  intro m
  induction m with
  | zero =>
    intro k hk
    have e : k = mS.2.2.2.2.2.2.2.2.toNat := by omega
    have q := hQ k
    rw [← e] at q
    refine aw_tree (I0_ok X _) [(false, 49), (true, 24)] [78, 127] rfl ?_
    repeat' (first | refine And.intro ?_ ?_ | (refine aImp_e0 ?_; intro _) | (refine aImp_n0 ?_; intro _) | (refine aImp_i ?_; intro _))
    all_goals (try (first | omega | exact bI_01 _ | exact bI_lo _ | exact bI_hi _ | exact bI_hi' _ | exact trivial | exact Or.inl rfl | exact Or.inr rfl | (exfalso; omega)))
    exact q
  | succ m ih =>
    intro k hk
    have goal := ih (k + 1) (by omega)
    rw [selM] at goal
    have hr := selM_r (mS := mS) (wo := mN.2.2.1) k
    generalize selM mS mN.2.2.1 k = x at *
    have r1 := s1 k
    have r2 := s1 x
    have r3 := s2 k
    have r4 := s2 x
    have hw := hwo k (by omega) (by omega)
    refine aw_tree (I0_ok X _) [(false, 49), (true, 24)] [78, 127] rfl ?_
    repeat' (first | refine And.intro ?_ ?_ | (refine aImp_e0 ?_; intro _) | (refine aImp_n0 ?_; intro _) | (refine aImp_i ?_; intro _))
    all_goals (try (first | omega | exact bI_01 _ | exact bI_lo _ | exact bI_hi _ | exact bI_hi' _ | exact trivial | exact Or.inl rfl | exact Or.inr rfl | (exfalso; omega)))
    refine aw_cf0 (m_sat _ a mT mG mR mU mP mO mS mN t k (by unfold inR; omega) s3 s4 s1) rfl ?_
    by_cases hs : satM mS k
    · rw [bI_t hs]
      by_cases c : mN.2.2.1 k = -1 ∧ (x = -1 ∨ lexM mS x k)
      · rw [cif_t ⟨⟨hs, c.1⟩, c.2⟩] at goal
        unfold lexM at c
        refine aw_tree (I0_ok X _) [(false, 49), (true, 24)] [78, 127] rfl ?_
        repeat' (first | refine And.intro ?_ ?_ | (refine aImp_e0 ?_; intro _) | (refine aImp_n0 ?_; intro _) | (refine aImp_i ?_; intro _))
        all_goals (try (first | omega | exact bI_01 _ | exact bI_lo _ | exact bI_hi _ | exact bI_hi' _ | exact trivial | exact Or.inl rfl | exact Or.inr rfl | (exfalso; omega)))
        all_goals exact goal
      · rw [cif_f (fun z => c ⟨z.1.2, z.2⟩)] at goal
        unfold lexM at c
        refine aw_tree (I0_ok X _) [(false, 49), (true, 24)] [78, 127] rfl ?_
        repeat' (first | refine And.intro ?_ ?_ | (refine aImp_e0 ?_; intro _) | (refine aImp_n0 ?_; intro _) | (refine aImp_i ?_; intro _))
        all_goals (try (first | omega | exact bI_01 _ | exact bI_lo _ | exact bI_hi _ | exact bI_hi' _ | exact trivial | exact Or.inl rfl | exact Or.inr rfl | (exfalso; omega)))
        all_goals exact goal
    · rw [bI_f hs]
      rw [cif_f (fun z => hs z.1.1)] at goal
      refine aw_tree (I0_ok X _) [(false, 49), (true, 24)] [78, 127] rfl ?_
      repeat' (first | refine And.intro ?_ ?_ | (refine aImp_e0 ?_; intro _) | (refine aImp_n0 ?_; intro _) | (refine aImp_i ?_; intro _))
      all_goals (try (first | omega | exact bI_01 _ | exact bI_lo _ | exact bI_hi _ | exact bI_hi' _ | exact trivial | exact Or.inl rfl | exact Or.inr rfl | (exfalso; omega)))
      all_goals exact goal
theorem m_mor_min {X : AX} (d : Nat) (a : AC49) (mT : TyT) (mG : TyMG) (mR : TyMR) (mU : TyMU) (mP : TyMP) (mO : TyO) (mS : TyMS) (mN : TyMN) (t : AH) (n sh so mi en kk who : Int) {Q : AQ} (hn : 1 ≤ n ∧ n ≤ 4) (hg : ∀ i, 0 ≤ i → i < 4 → 0 ≤ mN.2.2.2.1 i ∧ mN.2.2.2.1 i ≤ 1000)
    (hQ : ∀ v10 : Int, AW X (d + 3) 0 0 142 154 [rf 49, iv n, iv sh, iv so, iv mi, iv en, iv kk, iv who, iv 0, iv (mnN mN.2.2.2.1 (n - 1).toNat), iv v10] [] (CV a (MH mT mG mR mU mP mO mS mN t)) Q) :
    ∀ (m k : Nat), k + m = (n - 1).toNat → AW X (d + 3) 0 0 142 136 [rf 49, iv n, iv sh, iv so, iv mi, iv en, iv kk, iv who, iv 0, iv (mnN mN.2.2.2.1 k), iv ((k : Int) + 1)] [] (CV a (MH mT mG mR mU mP mO mS mN t)) Q := by
  intro m
  induction m with
  | zero =>
    intro k hk
    have e : k = (n - 1).toNat := by omega
    have q := hQ ((k : Int) + 1)
    rw [← e] at q
    have hr := mnN_r hg k (by omega)
    refine aw_tree (I0_ok X _) [(false, 49), (true, 24)] [136, 154] rfl ?_
    repeat' (first | refine And.intro ?_ ?_ | (refine aImp_e0 ?_; intro _) | (refine aImp_n0 ?_; intro _) | (refine aImp_i ?_; intro _))
    all_goals (try (first | omega | exact bI_01 _ | exact bI_lo _ | exact bI_hi _ | exact bI_hi' _ | exact trivial | exact Or.inl rfl | exact Or.inr rfl | (exfalso; omega)))
    exact q
  | succ m ih =>
    intro k hk
    have goal := ih (k + 1) (by omega)
    rw [mnN] at goal
    have hr := mnN_r hg k (by omega)
    have hr2 := hg ((k : Int) + 1) (by omega) (by omega)
    refine aw_tree (I0_ok X _) [(false, 49), (true, 24)] [136, 154] rfl ?_
    repeat' (first | refine And.intro ?_ ?_ | (refine aImp_e0 ?_; intro _) | (refine aImp_n0 ?_; intro _) | (refine aImp_i ?_; intro _))
    all_goals (try (first | omega | exact bI_01 _ | exact bI_lo _ | exact bI_hi _ | exact bI_hi' _ | exact trivial | exact Or.inl rfl | exact Or.inr rfl | (exfalso; omega)))
    · rw [show min (mnN mN.2.2.2.1 k) (mN.2.2.2.1 ((k : Int) + 1)) = mnN mN.2.2.2.1 k from by omega] at goal
      exact goal
    · rw [show min (mnN mN.2.2.2.1 k) (mN.2.2.2.1 ((k : Int) + 1)) = mN.2.2.2.1 ((k : Int) + 1) from by omega] at goal
      exact goal
theorem m_mor_gate {X : AX} (d : Nat) (a : AC49) (mT : TyT) (mG : TyMG) (mR : TyMR) (mU : TyMU) (mP : TyMP) (mO : TyO) (mS : TyMS) (mN : TyMN) (t : AH) (n sh so mi en kk who x : Int) (v9 v10 : AV) {Q : AQ} (hmi : inR mi) (hx : 0 ≤ x ∧ x < 4) (hg : ∀ i, 0 ≤ i → i < 4 → 0 ≤ mN.2.2.2.1 i ∧ mN.2.2.2.1 i ≤ 1000) (h1 : mN.2.2.2.1 x ≤ mi) (h2 : ∀ s, 0 ≤ s → s < x → ¬ mN.2.2.2.1 s ≤ mi)
    (hQ : AW X (d + 3) 0 0 142 169 [rf 49, iv n, iv sh, iv so, iv mi, iv en, iv kk, iv who, iv x, v9, v10] [] (CV a (MH mT mG mR mU mP mO mS mN t)) Q) :
    ∀ (m : Nat) (s : Int), s + m = x → 0 ≤ s → AW X (d + 3) 0 0 142 161 [rf 49, iv n, iv sh, iv so, iv mi, iv en, iv kk, iv who, iv s, v9, v10] [] (CV a (MH mT mG mR mU mP mO mS mN t)) Q := by
  unfold inR at hmi
  intro m
  induction m with
  | zero =>
    intro s hs s0
    have e : s = x := by omega
    subst e
    have hr := hg s hx.1 hx.2
    refine aw_tree (I0_ok X _) [(false, 49), (true, 24)] [161, 169] rfl ?_
    repeat' (first | refine And.intro ?_ ?_ | (refine aImp_e0 ?_; intro _) | (refine aImp_n0 ?_; intro _) | (refine aImp_i ?_; intro _))
    all_goals (try (first | omega | exact bI_01 _ | exact bI_lo _ | exact bI_hi _ | exact bI_hi' _ | exact trivial | exact Or.inl rfl | exact Or.inr rfl | (exfalso; omega)))
    exact hQ
  | succ m ih =>
    intro s hs s0
    have goal := ih (s + 1) (by omega) (by omega)
    have hr := hg s (by omega) (by omega)
    have hlt := h2 s s0 (by omega)
    refine aw_tree (I0_ok X _) [(false, 49), (true, 24)] [161, 169] rfl ?_
    repeat' (first | refine And.intro ?_ ?_ | (refine aImp_e0 ?_; intro _) | (refine aImp_n0 ?_; intro _) | (refine aImp_i ?_; intro _))
    all_goals (try (first | omega | exact bI_01 _ | exact bI_lo _ | exact bI_hi _ | exact bI_hi' _ | exact trivial | exact Or.inl rfl | exact Or.inr rfl | (exfalso; omega)))
    exact goal

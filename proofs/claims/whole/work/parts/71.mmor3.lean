/-- the morning's line: from the last one on -/
def ltF (mS : TyMS) (f : FN) (m : Int) : Prop := (∀ k, 0 ≤ k → k < m → satM mS (f k)) ∧ (∀ j k, 0 ≤ j → j < k → k < m → f j ≠ f k ∧ lexM mS (f k) (f j)) ∧ (∀ g, satM mS g → ∃ i, 0 ≤ i ∧ i < m ∧ f i = g)
theorem rLn_lt {mG : TyMG} {mS : TyMS} {f : FN} {m : Int} (hG : kG mG) (hgt : mS.2.2.2.2.2.2.2.2 ≤ mG.2.2.2) (h : rLn mG mS f m) : ltF mS (fun k => f (m - 1 - k)) m := by
  refine ⟨fun k k0 k1 => h.2.2.1 _ (by omega) (by omega), fun j k j0 jk k1 => ⟨?_, ?_⟩, fun g hg => ?_⟩
  · exact fun e => rLn_inj hG hgt h (i := m - 1 - k) (j := m - 1 - j) (by omega) (by omega) (by omega) e.symm
  · exact (rLn_lex hG hgt h (i := m - 1 - k) (j := m - 1 - j) (by omega) (by omega)).mpr (by omega)
  · obtain ⟨i, i0, i1, i2⟩ := h.2.2.2 g hg
    exact ⟨m - 1 - i, by omega, by omega, by dsimp only; rw [show m - 1 - (m - 1 - i) = i from by omega]; exact i2⟩
theorem sel_ok {mS : TyMS} {f wo : FN} {m : Int} {k : Nat} (hS : kS mS) (h : ltF mS f m) (hk : (k : Int) < m) (h1 : ∀ g, (∃ j, 0 ≤ j ∧ j < (k : Int) ∧ f j = g) → 0 ≤ wo g) (h2 : ∀ g, 0 ≤ g → g < 32 → (¬ ∃ j, 0 ≤ j ∧ j < (k : Int) ∧ f j = g) → wo g = -1) : selM mS wo mS.2.2.2.2.2.2.2.2.toNat = f k := by
  have hs := h.1 k (by omega) hk
  have hgt := hS.2.2.2
  have hs' := hs
  obtain ⟨c1, c2, c3, c4⟩ := hs'
  refine (selM_at ⟨hs, h2 _ c2 (by omega) (fun ⟨j, a, b, c⟩ => (h.2.1 j k a b hk).1 c)⟩ (fun g g1 g2 g3 => ?_) _).2 (by omega)
  obtain ⟨i, i0, i1, i2⟩ := h.2.2 g g1
  rcases Int.lt_trichotomy i k with q | q | q
  · have := h1 g ⟨i, i0, q, i2⟩
    omega
  · exact absurd (by rw [← i2, q]) g3
  · rw [← i2]
    exact (h.2.1 k i (by omega) q i1).2
abbrev mNq (q : TyM) (x1 x2 : Int) : TyMN := (q.2.2.2.1, q.2.2.2.2.1, q.2.2.2.2.2, q.2.2.1, x1, x2)
set_option maxRecDepth 100000 in
theorem m_mor_loop {X : AX} (d : Nat) (a : AC49) (mT : TyT) (mG : TyMG) (mR : TyMR) (mU : TyMU) (mP : TyMP) (mO : TyO) (mS : TyMS) (t : AH) (n sh m x1 x2 : Int) (f : FN) (q : TyM) {Q : AQ} (hn : 1 ≤ n ∧ n ≤ 4) (hS : kS mS) (hG : kG mG) (hm : 0 ≤ m ∧ m ≤ 32) (hf : ltF mS f m) (hq : kM 0 q) (hqw : ∀ g, 0 ≤ g → g < 32 → q.2.2.2.2.2 g = -1)
    (hQ : Q (some (iv (sh - (mRun n (fun g => mG.1 (6 * g + 4)) f m.toNat q).2.1))) (CV a (MH mT mG mR mU mP mO mS (mNq (mRun n (fun g => mG.1 (6 * g + 4)) f m.toNat q) x1 x2) t))) :
    ∀ (mm k : Nat) (v7 v8 v9 v10 : AV), k + mm = m.toNat → AW X (d + 3) 0 0 142 71 [rf 49, iv n, iv sh, iv m, iv (mRun n (fun g => mG.1 (6 * g + 4)) f k q).1, iv (mRun n (fun g => mG.1 (6 * g + 4)) f k q).2.1, iv k, v7, v8, v9, v10] [] (CV a (MH mT mG mR mU mP mO mS (mNq (mRun n (fun g => mG.1 (6 * g + 4)) f k q) x1 x2) t)) Q := by
  have hS' := hS
  obtain ⟨s1, s2, s3, s4⟩ := hS'
  have hfr : ∀ i, 0 ≤ i → i < m → (0 ≤ f i ∧ f i < 32) ∧ 0 ≤ mG.1 (6 * f i + 4) ∧ mG.1 (6 * f i + 4) ≤ 6 := by
    intro i i0 i1
    obtain ⟨c1, c2, c3, c4⟩ := hf.1 i i0 i1
    have h1 := hG.2.1 (6 * f i + 4)
    have h2 := hG.2.2.1 (f i) c2 (by omega)
    omega
  intro mm
  induction mm with
  | zero =>
    intro k v7 v8 v9 v10 hk
    have e : k = m.toNat := by omega
    subst e
    refine aw_tree (I0_ok X _) [(false, 49), (true, 24)] [71, 78, 213] rfl ?_
    dsimp only
    repeat' (first | refine And.intro ?_ ?_ | (refine aImp_e0 ?_; intro _) | (refine aImp_n0 ?_; intro _) | (refine aImp_i ?_; intro _))
    all_goals (try (first | omega | exact bI_01 _ | exact bI_lo _ | exact bI_hi _ | exact bI_hi' _ | exact trivial | exact Or.inl rfl | exact Or.inr rfl | (exfalso; omega)))
    refine aw_tree (I0_ok X _) [(false, 49), (true, 24)] [] rfl ?_
    exact hQ
  | succ mm ih =>
    intro k v7 v8 v9 v10 hk
    have goal := fun v7 v8 v9 v10 => ih (k + 1) v7 v8 v9 v10 (by omega)
    have hkM := mRun_k (w := fun g => mG.1 (6 * g + 4)) (f := f) hn hq k (fun i i0 i1 => (hfr i i0 (by omega)).2)
    have hE := (mRun_eq (w := fun g => mG.1 (6 * g + 4)) (w' := fun g => mG.1 (6 * g + 4)) (f := f) (q := q) (q' := q) hn rfl rfl (fun _ _ _ => rfl) k (fun _ _ _ => rfl)).2.2.2
    have hsel := sel_ok (wo := (mRun n (fun g => mG.1 (6 * g + 4)) f k q).2.2.2.2.2) hS hf (k := k) (by omega) (fun g hg => ((hE g).1 hg).2.2.2.1) (fun g g0 g1 hg => by rw [((hE g).2 hg).2.2.1]; exact hqw g g0 g1)
    have hwo : ∀ g, 0 ≤ g → g < 32 → -1 ≤ (mRun n (fun g => mG.1 (6 * g + 4)) f k q).2.2.2.2.2 g ∧ (mRun n (fun g => mG.1 (6 * g + 4)) f k q).2.2.2.2.2 g ≤ 32 := by
      intro g g0 g1
      by_cases hg : ∃ j, 0 ≤ j ∧ j < (k : Int) ∧ f j = g
      · have := ((hE g).1 hg).2.2.2
        omega
      · rw [((hE g).2 hg).2.2.1, hqw g g0 g1]
        omega
    rw [mRun] at goal
    clear hE hQ ih hqw hq
    generalize mRun n (fun g => mG.1 (6 * g + 4)) f k q = p at *
    have hfk := hfr k (by omega) (by omega)
    have hg4 : ∀ i, 0 ≤ i → i < 4 → 0 ≤ p.2.2.1 i ∧ p.2.2.1 i ≤ 1000 := fun i i0 i1 => by
      have := hkM.2.2 i i0 i1
      omega
    have hmi := mMi_r hn hkM
    have hmn := mnN_r hg4 (n - 1).toNat (by omega)
    obtain ⟨gr, g1, g2⟩ := mGa_r (q := p) hn
    have hp1 := hkM.1
    have hp2 := hkM.2.1
    refine aw_tree (I0_ok X _) [(false, 49), (true, 24)] [71, 78, 213] rfl ?_
    dsimp only
    repeat' (first | refine And.intro ?_ ?_ | (refine aImp_e0 ?_; intro _) | (refine aImp_n0 ?_; intro _) | (refine aImp_i ?_; intro _))
    all_goals (try (first | omega | exact bI_01 _ | exact bI_lo _ | exact bI_hi _ | exact bI_hi' _ | exact trivial | exact Or.inl rfl | exact Or.inr rfl | (exfalso; omega)))
    refine m_mor_sel d a mT mG mR mU mP mO mS (mNq p x1 x2) t n sh m p.1 p.2.1 k _ _ hS hwo (fun v8 => ?_) mS.2.2.2.2.2.2.2.2.toNat 0 (by omega)
    rw [show selM mS (mNq p x1 x2).2.2.1 mS.2.2.2.2.2.2.2.2.toNat = f k from hsel]
    refine aw_tree (I0_ok X _) [(false, 49), (true, 24)] [136] rfl ?_
    dsimp only
    repeat' (first | refine And.intro ?_ ?_ | (refine aImp_e0 ?_; intro _) | (refine aImp_n0 ?_; intro _) | (refine aImp_i ?_; intro _))
    all_goals (try (first | omega | exact bI_01 _ | exact bI_lo _ | exact bI_hi _ | exact bI_hi' _ | exact trivial | exact Or.inl rfl | exact Or.inr rfl | (exfalso; omega)))
    refine m_mor_min d a mT mG mR mU mP mO mS (mNq p x1 x2) t n sh m p.1 p.2.1 k (f k) hn hg4 (fun v10' => ?_) (n - 1).toNat 0 (by omega)
    have h161 : ∀ v9' v10' : AV, AW X (d + 3) 0 0 142 161 [rf 49, iv n, iv sh, iv m, iv (mMi n p), iv p.2.1, iv k, iv (f k), iv 0, v9', v10'] [] (CV a (MH mT mG mR mU mP mO mS (mNq p x1 x2) t)) Q := by
      intro v9' v10'
      refine m_mor_gate d a mT mG mR mU mP mO mS (mNq p x1 x2) t n sh m (mMi n p) p.2.1 k (f k) (mGa n p) v9' v10' (by unfold inR; omega) ⟨gr.1, by omega⟩ hg4 g1 g2 ?_ (mGa n p).toNat 0 (by omega) (by omega)
      have goal' := goal (iv (f k)) (iv (mGa n p)) v9' v10'
      unfold mSt at goal'
      have eg : aUp p.2.2.1 (mGa n p) (mMi n p + mG.1 (6 * f k + 4)) (mGa n p) = mMi n p + mG.1 (6 * f k + 4) := aUp_s _ _ _
      refine aw_tree (I0_ok X _) [(false, 49), (true, 24)] [71] rfl ?_
      dsimp only [mNq]
      rw [eg]
      repeat' (first | refine And.intro ?_ ?_ | (refine aImp_e0 ?_; intro _) | (refine aImp_n0 ?_; intro _) | (refine aImp_i ?_; intro _))
      all_goals (try (first | omega | exact bI_01 _ | exact bI_lo _ | exact bI_hi _ | exact bI_hi' _ | exact trivial | exact Or.inl rfl | exact Or.inr rfl | (exfalso; omega)))
      · dsimp only at goal'
        rw [show max p.2.1 (mMi n p + mG.1 (6 * f k + 4)) = p.2.1 from by omega] at goal'
        exact goal'
      · dsimp only at goal'
        rw [show max p.2.1 (mMi n p + mG.1 (6 * f k + 4)) = mMi n p + mG.1 (6 * f k + 4) from by omega] at goal'
        exact goal'
    refine aw_tree (I0_ok X _) [(false, 49), (true, 24)] [161] rfl ?_
    dsimp only
    repeat' (first | refine And.intro ?_ ?_ | (refine aImp_e0 ?_; intro _) | (refine aImp_n0 ?_; intro _) | (refine aImp_i ?_; intro _))
    all_goals (try (first | omega | exact bI_01 _ | exact bI_lo _ | exact bI_hi _ | exact bI_hi' _ | exact trivial | exact Or.inl rfl | exact Or.inr rfl | (exfalso; omega)))
    · rw [show p.1 = mMi n p from by unfold mMi; omega]
      exact h161 _ _
    · rw [show mnN p.2.2.1 (n - 1).toNat = mMi n p from by unfold mMi; omega]
      exact h161 _ _
theorem m_morning {X : AX} (d : Nat) (a : AC49) (mT : TyT) (mG : TyMG) (mR : TyMR) (mU : TyMU) (mP : TyMP) (mO : TyO) (mS : TyMS) (mN : TyMN) (t : AH) (n sh m : Int) (f : FN) {Q : AQ} (hn : inR n) (hsh : inR sh) (hS : kS mS) (hG : kG mG) (hm : 0 ≤ m ∧ m ≤ 32) (hf : ltF mS f m) (hso : smN (fun g => bI (satM mS g)) mS.2.2.2.2.2.2.2.2.toNat = m)
    (h1 : ¬ ((1 ≤ n ∧ n ≤ 4) ∧ (0 ≤ sh ∧ sh ≤ 2000) ∧ m ≠ 0) → Q (some (iv (-10000))) (CV a (MH mT mG mR mU mP mO mS mN t)))
    (h2 : (1 ≤ n ∧ n ≤ 4) ∧ (0 ≤ sh ∧ sh ≤ 2000) ∧ m ≠ 0 → Q (some (iv (sh - (mRun n (fun g => mG.1 (6 * g + 4)) f m.toNat (0, 0, fil mN.2.2.2.1 0 4, mN.1, mN.2.1, fil mN.2.2.1 (-1) 32)).2.1))) (CV a (MH mT mG mR mU mP mO mS (mNq (mRun n (fun g => mG.1 (6 * g + 4)) f m.toNat (0, 0, fil mN.2.2.2.1 0 4, mN.1, mN.2.1, fil mN.2.2.1 (-1) 32)) 1 mS.2.2.2.2.2.2.2.2) t))) :
    AW X (d + 3) 0 0 142 0 (aEntry 142 [rf 49, iv n, iv sh]) [] (CV a (MH mT mG mR mU mP mO mS mN t)) Q := by
  unfold inR at hn hsh
  refine aw_tree (I0_ok X _) [(false, 49), (true, 24)] [4] rfl ?_
  refine m_mor_some d a mT mG mR mU mP mO mS mN t n sh hS (fun v4 => ?_) mS.2.2.2.2.2.2.2.2.toNat 0 (by omega)
  rw [hso]
  refine aw_tree (I0_ok X _) [(false, 49), (true, 24)] [43] rfl ?_
  repeat' (first | refine And.intro ?_ ?_ | (refine aImp_e0 ?_; intro _) | (refine aImp_n0 ?_; intro _) | (refine aImp_i ?_; intro _))
  all_goals (try (first | omega | exact bI_01 _ | exact bI_lo _ | exact bI_hi _ | exact bI_hi' _ | exact trivial | exact Or.inl rfl | exact Or.inr rfl | (exfalso; omega)))
  all_goals first
    | exact h1 (by omega)
    | (refine m_mor_fw d a mT mG mR mU mP mO mS mN.1 mN.2.1 mN.2.2.1 mN.2.2.2.1 1 mS.2.2.2.2.2.2.2.2 t n sh m ?_ 32 0 rfl
       refine aw_tree (I0_ok X _) [(false, 49), (true, 24)] [55] rfl ?_
       refine m_mor_fg d a mT mG mR mU mP mO mS mN.1 mN.2.1 (fil mN.2.2.1 (-1) 32) mN.2.2.2.1 1 mS.2.2.2.2.2.2.2.2 t n sh m ?_ 4 0 rfl
       refine aw_tree (I0_ok X _) [(false, 49), (true, 24)] [71] rfl ?_
       exact m_mor_loop d a mT mG mR mU mP mO mS t n sh m 1 mS.2.2.2.2.2.2.2.2 f (0, 0, fil mN.2.2.2.1 0 4, mN.1, mN.2.1, fil mN.2.2.1 (-1) 32) (by omega) hS hG hm hf ⟨⟨Int.le_refl 0, Int.le_refl 0⟩, ⟨Int.le_refl 0, Int.le_refl 0⟩, fun i i0 i1 => by
         show 0 ≤ fil mN.2.2.2.1 0 4 i ∧ fil mN.2.2.2.1 0 4 i ≤ 0
         rw [fil_lt 4 i i0 i1]; omega⟩ (fun g g0 g1 => fil_lt 32 g g0 g1) (h2 (by omega)) m.toNat 0 jk jk jk jk (by omega))

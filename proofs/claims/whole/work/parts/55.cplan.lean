theorem el_eq {rw' pw : FN} {g r p ar ap : Int} (hr : 0 ≤ r ∧ r < 6) (h : (rw' g < 6 ∧ ar = rw' g ∧ ap = pw g) ∨ (¬ rw' g < 6 ∧ ar = -1 ∧ ap = -1)) : bI (¬ ar = r ∨ ¬ ap = p) = mvM rw' pw 1 g r p := by
  unfold mvM
  rw [cif_f (show ¬ (1 : Int) = 0 from by omega), cif_f (show ¬ r = 6 from by omega)]
  by_cases q : ¬ ar = r ∨ ¬ ap = p
  · rw [bI_t q, cif_f (fun k => by omega)]
  · rw [bI_f q, cif_t (by omega)]
theorem el_eq6 {rw' pw : FN} {g p ar ap : Int} (h0 : 0 ≤ rw' g) (h : (rw' g < 6 ∧ ar = rw' g ∧ ap = pw g) ∨ (¬ rw' g < 6 ∧ ar = -1 ∧ ap = -1)) : bI (¬ ar = -1 ∨ ¬ ap = -1) = mvM rw' pw 1 g 6 p := by
  unfold mvM
  rw [cif_f (show ¬ (1 : Int) = 0 from by omega), cif_t rfl]
  by_cases q : rw' g < 6
  · rw [cif_t q, bI_t (by omega)]
  · rw [cif_f q, bI_f (by omega)]
theorem c_cm_loop0 {X : AX} (d : Nat) (sb ss : Nat) (T : TyT) (G : TyG) (L : TyL) (O : TyO) (R : TyR) (P : TyP) (C : TyC) (B D : TyB) (S N : TyS) (t : AH) (n : Int) (e : Int → Int) {Q : AQ} (hn : 0 ≤ n ∧ n ≤ 32) (hP : P.2.2.2.2.2.2.2.2.1 = n) (hg : ∀ i, 0 ≤ i → i < n → 0 ≤ P.1 i ∧ P.1 i < 32) (hr : ∀ i, 0 ≤ i → i < n → inR (S.1 (P.1 i)) ∧ inR (S.2.1 (P.1 i)) ∧ inR (P.2.2.2.2.2.1 i) ∧ inR (P.2.2.2.2.2.2.1 i)) (he : ∀ i, 0 ≤ i → i < n → bI (¬ P.2.2.2.2.2.1 i = S.1 (P.1 i) ∨ ¬ P.2.2.2.2.2.2.1 i = S.2.1 (P.1 i)) = e i)
    (hQ : Q (some (iv (smN e n.toNat))) (CH sb ss T G L O R P C B D S N t)) :
    ∀ (m i : Nat), i + m = n.toNat → AW X (d + 3) 0 0 38 4 [rf 17, rf 41, iv (smN e i), iv i] [] (CH sb ss T G L O R P C B D S N t) Q := by
  intro m
  induction m with
  | zero =>
    intro i hi
    have ei : i = n.toNat := by omega
    subst ei
    refine aw_tree (I0_ok X _) [(true, 49)] [4] rfl ?_
    repeat' (first | refine And.intro ?_ ?_ | (refine aImp_e0 ?_; intro _) | (refine aImp_n0 ?_; intro _) | (refine aImp_i ?_; intro _))
    all_goals (try (first | omega | exact bI_01 _ | exact bI_lo _ | exact bI_hi _ | exact bI_hi' _ | exact trivial | exact Or.inl rfl | exact Or.inr rfl | (exfalso; omega)))
    exact hQ
  | succ m ih =>
    intro i hi
    have g1 := hg i (by omega) (by omega)
    have r1 := hr i (by omega) (by omega)
    have e1 := he i (by omega) (by omega)
    have goal := ih (i + 1) (by omega)
    rw [smN, ← e1] at goal
    refine aw_tree (I0_ok X _) [(true, 49)] [4] rfl ?_
    repeat' (first | refine And.intro ?_ ?_ | (refine aImp_e0 ?_; intro _) | (refine aImp_n0 ?_; intro _) | (refine aImp_i ?_; intro _))
    all_goals (try (first | omega | exact bI_01 _ | exact bI_lo _ | exact bI_hi _ | exact bI_hi' _ | exact trivial | exact Or.inl rfl | exact Or.inr rfl | (exfalso; omega)))
    refine aw_cf0 (c_isElsewhere _ sb ss T G L O R P C B D S N t i (S.1 (P.1 i)) (S.2.1 (P.1 i)) (by omega) r1.1 r1.2.1 r1.2.2.1 r1.2.2.2) rfl ?_
    by_cases q : ¬ P.2.2.2.2.2.1 i = S.1 (P.1 i) ∨ ¬ P.2.2.2.2.2.2.1 i = S.2.1 (P.1 i)
    · rw [bI_t q] at goal ⊢
      refine aw_tree (I0_ok X _) [(true, 49)] [4] rfl ?_
      repeat' (first | refine And.intro ?_ ?_ | (refine aImp_e0 ?_; intro _) | (refine aImp_n0 ?_; intro _) | (refine aImp_i ?_; intro _))
      all_goals (try (first | omega | exact bI_01 _ | exact bI_lo _ | exact bI_hi _ | exact bI_hi' _ | exact trivial | exact Or.inl rfl | exact Or.inr rfl | (exfalso; omega)))
      exact goal
    · rw [bI_f q] at goal ⊢
      rw [Int.add_zero] at goal
      refine aw_tree (I0_ok X _) [(true, 49)] [4] rfl ?_
      repeat' (first | refine And.intro ?_ ?_ | (refine aImp_e0 ?_; intro _) | (refine aImp_n0 ?_; intro _) | (refine aImp_i ?_; intro _))
      all_goals (try (first | omega | exact bI_01 _ | exact bI_lo _ | exact bI_hi _ | exact bI_hi' _ | exact trivial | exact Or.inl rfl | exact Or.inr rfl | (exfalso; omega)))
      exact goal
theorem c_countMoved0 {X : AX} (d : Nat) (sb ss : Nat) (T : TyT) (G : TyG) (L : TyL) (O : TyO) (R : TyR) (P : TyP) (C : TyC) (B D : TyB) (S N : TyS) (t : AH) (n : Int) (e : Int → Int) (hn : 0 ≤ n ∧ n ≤ 32) (hP : P.2.2.2.2.2.2.2.2.1 = n) (hg : ∀ i, 0 ≤ i → i < n → 0 ≤ P.1 i ∧ P.1 i < 32) (hr : ∀ i, 0 ≤ i → i < n → inR (S.1 (P.1 i)) ∧ inR (S.2.1 (P.1 i)) ∧ inR (P.2.2.2.2.2.1 i) ∧ inR (P.2.2.2.2.2.2.1 i)) (he : ∀ i, 0 ≤ i → i < n → bI (¬ P.2.2.2.2.2.1 i = S.1 (P.1 i) ∨ ¬ P.2.2.2.2.2.2.1 i = S.2.1 (P.1 i)) = e i) :
    AF X (d + 3) 0 0 38 [rf 17, rf 41] (CH sb ss T G L O R P C B D S N t) (some (iv (smN e n.toNat))) (CH sb ss T G L O R P C B D S N t) := by
  refine aw_tree (I0_ok X _) [(true, 49)] [4] rfl ?_
  exact c_cm_loop0 d sb ss T G L O R P C B D S N t n e hn hP hg hr he ⟨rfl, rfl⟩ n.toNat 0 (by omega)
theorem c_cm_loop1 {X : AX} (d : Nat) (sb ss : Nat) (T : TyT) (G : TyG) (L : TyL) (O : TyO) (R : TyR) (P : TyP) (C : TyC) (B D : TyB) (S N : TyS) (t : AH) (n : Int) (e : Int → Int) {Q : AQ} (hn : 0 ≤ n ∧ n ≤ 32) (hP : P.2.2.2.2.2.2.2.2.1 = n) (hg : ∀ i, 0 ≤ i → i < n → 0 ≤ P.1 i ∧ P.1 i < 32) (hr : ∀ i, 0 ≤ i → i < n → inR (N.1 (P.1 i)) ∧ inR (N.2.1 (P.1 i)) ∧ inR (P.2.2.2.2.2.1 i) ∧ inR (P.2.2.2.2.2.2.1 i)) (he : ∀ i, 0 ≤ i → i < n → bI (¬ P.2.2.2.2.2.1 i = N.1 (P.1 i) ∨ ¬ P.2.2.2.2.2.2.1 i = N.2.1 (P.1 i)) = e i)
    (hQ : Q (some (iv (smN e n.toNat))) (CH sb ss T G L O R P C B D S N t)) :
    ∀ (m i : Nat), i + m = n.toNat → AW X (d + 3) 0 0 38 4 [rf 17, rf 45, iv (smN e i), iv i] [] (CH sb ss T G L O R P C B D S N t) Q := by
  intro m
  induction m with
  | zero =>
    intro i hi
    have ei : i = n.toNat := by omega
    subst ei
    refine aw_tree (I0_ok X _) [(true, 49)] [4] rfl ?_
    repeat' (first | refine And.intro ?_ ?_ | (refine aImp_e0 ?_; intro _) | (refine aImp_n0 ?_; intro _) | (refine aImp_i ?_; intro _))
    all_goals (try (first | omega | exact bI_01 _ | exact bI_lo _ | exact bI_hi _ | exact bI_hi' _ | exact trivial | exact Or.inl rfl | exact Or.inr rfl | (exfalso; omega)))
    exact hQ
  | succ m ih =>
    intro i hi
    have g1 := hg i (by omega) (by omega)
    have r1 := hr i (by omega) (by omega)
    have e1 := he i (by omega) (by omega)
    have goal := ih (i + 1) (by omega)
    rw [smN, ← e1] at goal
    refine aw_tree (I0_ok X _) [(true, 49)] [4] rfl ?_
    repeat' (first | refine And.intro ?_ ?_ | (refine aImp_e0 ?_; intro _) | (refine aImp_n0 ?_; intro _) | (refine aImp_i ?_; intro _))
    all_goals (try (first | omega | exact bI_01 _ | exact bI_lo _ | exact bI_hi _ | exact bI_hi' _ | exact trivial | exact Or.inl rfl | exact Or.inr rfl | (exfalso; omega)))
    refine aw_cf0 (c_isElsewhere _ sb ss T G L O R P C B D S N t i (N.1 (P.1 i)) (N.2.1 (P.1 i)) (by omega) r1.1 r1.2.1 r1.2.2.1 r1.2.2.2) rfl ?_
    by_cases q : ¬ P.2.2.2.2.2.1 i = N.1 (P.1 i) ∨ ¬ P.2.2.2.2.2.2.1 i = N.2.1 (P.1 i)
    · rw [bI_t q] at goal ⊢
      refine aw_tree (I0_ok X _) [(true, 49)] [4] rfl ?_
      repeat' (first | refine And.intro ?_ ?_ | (refine aImp_e0 ?_; intro _) | (refine aImp_n0 ?_; intro _) | (refine aImp_i ?_; intro _))
      all_goals (try (first | omega | exact bI_01 _ | exact bI_lo _ | exact bI_hi _ | exact bI_hi' _ | exact trivial | exact Or.inl rfl | exact Or.inr rfl | (exfalso; omega)))
      exact goal
    · rw [bI_f q] at goal ⊢
      rw [Int.add_zero] at goal
      refine aw_tree (I0_ok X _) [(true, 49)] [4] rfl ?_
      repeat' (first | refine And.intro ?_ ?_ | (refine aImp_e0 ?_; intro _) | (refine aImp_n0 ?_; intro _) | (refine aImp_i ?_; intro _))
      all_goals (try (first | omega | exact bI_01 _ | exact bI_lo _ | exact bI_hi _ | exact bI_hi' _ | exact trivial | exact Or.inl rfl | exact Or.inr rfl | (exfalso; omega)))
      exact goal
theorem c_countMoved1 {X : AX} (d : Nat) (sb ss : Nat) (T : TyT) (G : TyG) (L : TyL) (O : TyO) (R : TyR) (P : TyP) (C : TyC) (B D : TyB) (S N : TyS) (t : AH) (n : Int) (e : Int → Int) (hn : 0 ≤ n ∧ n ≤ 32) (hP : P.2.2.2.2.2.2.2.2.1 = n) (hg : ∀ i, 0 ≤ i → i < n → 0 ≤ P.1 i ∧ P.1 i < 32) (hr : ∀ i, 0 ≤ i → i < n → inR (N.1 (P.1 i)) ∧ inR (N.2.1 (P.1 i)) ∧ inR (P.2.2.2.2.2.1 i) ∧ inR (P.2.2.2.2.2.2.1 i)) (he : ∀ i, 0 ≤ i → i < n → bI (¬ P.2.2.2.2.2.1 i = N.1 (P.1 i) ∨ ¬ P.2.2.2.2.2.2.1 i = N.2.1 (P.1 i)) = e i) :
    AF X (d + 3) 0 0 38 [rf 17, rf 45] (CH sb ss T G L O R P C B D S N t) (some (iv (smN e n.toNat))) (CH sb ss T G L O R P C B D S N t) := by
  refine aw_tree (I0_ok X _) [(true, 49)] [4] rfl ?_
  exact c_cm_loop1 d sb ss T G L O R P C B D S N t n e hn hP hg hr he ⟨rfl, rfl⟩ n.toNat 0 (by omega)

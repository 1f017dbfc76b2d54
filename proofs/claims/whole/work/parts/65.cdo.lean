theorem c_bar {X : AX} (d : Nat) (sb ss : Nat) (T : TyT) (G : TyG) (L : TyL) (O : TyO) (R : TyR) (P : TyP) (C : TyC) (B D : TyB) (S N : TyS) (t : AH) (x y v : Int) {Q : AQ} (hx : inR x) (hy : inR y) (hv : v = 0 ∨ v = 1) (hG : 0 ≤ G.2.2.2.2.2.2.2.2.1 ∧ G.2.2.2.2.2.2.2.2.1 ≤ 32)
    (h1 : ¬ ((0 ≤ x ∧ x < G.2.2.2.2.2.2.2.2.1) ∧ (0 ≤ y ∧ y < G.2.2.2.2.2.2.2.2.1) ∧ x ≠ y ∧ bitI (G.2.2.2.2.2.2.2.1 x) y ≠ v) → Q (some (iv 0)) (CH sb ss T G L O R P C B D S N t))
    (h2 : (0 ≤ x ∧ x < G.2.2.2.2.2.2.2.2.1) ∧ (0 ≤ y ∧ y < G.2.2.2.2.2.2.2.2.1) ∧ x ≠ y ∧ bitI (G.2.2.2.2.2.2.2.1 x) y ≠ v → Q (some (iv 1)) (CH sb ss T (G.1, G.2.1, G.2.2.1, G.2.2.2.1, G.2.2.2.2.1, G.2.2.2.2.2.1, G.2.2.2.2.2.2.1, aUp (aUp G.2.2.2.2.2.2.2.1 x (bXor (G.2.2.2.2.2.2.2.1 x) (bShl 1 y))) y (bXor (aUp G.2.2.2.2.2.2.2.1 x (bXor (G.2.2.2.2.2.2.2.1 x) (bShl 1 y)) y) (bShl 1 x)), G.2.2.2.2.2.2.2.2.1, G.2.2.2.2.2.2.2.2.2.1, G.2.2.2.2.2.2.2.2.2.2 + (if v = 0 then -1 else 1)) L O R P C B D S N t)) :
    AW X (d + 4) 0 0 82 0 (aEntry 82 [rf 0, iv x, iv y, iv v]) [] (CH sb ss T G L O R P C B D S N t) Q := by
  have hx' := hx
  have hy' := hy
  unfold inR at hx' hy'
  refine aw_tree (I0_ok X _) [(true, 49)] [] rfl ?_
  refine aw_cf0 (c_has _ sb ss T G L O R P C B D S N t x hx hG) rfl ?_
  by_cases hxx : 0 ≤ x ∧ x < G.2.2.2.2.2.2.2.2.1
  · rw [bI_t hxx]
    refine aw_tree (I0_ok X _) [(true, 49)] [] rfl ?_
    repeat' (first | refine And.intro ?_ ?_ | (refine aImp_e0 ?_; intro _) | (refine aImp_n0 ?_; intro _) | (refine aImp_i ?_; intro _))
    all_goals (try (first | omega | exact bI_01 _ | exact bI_lo _ | exact bI_hi _ | exact bI_hi' _ | exact trivial | exact Or.inl rfl | exact Or.inr rfl | (exfalso; omega)))
    refine aw_cf0 (c_has _ sb ss T G L O R P C B D S N t y hy hG) rfl ?_
    by_cases hyy : 0 ≤ y ∧ y < G.2.2.2.2.2.2.2.2.1
    · rw [bI_t hyy]
      by_cases hxy : x = y
      · refine aw_tree (I0_ok X _) [(true, 49)] [] rfl ?_
        repeat' (first | refine And.intro ?_ ?_ | (refine aImp_e0 ?_; intro _) | (refine aImp_n0 ?_; intro _) | (refine aImp_i ?_; intro _))
        all_goals (try (first | omega | exact bI_01 _ | exact bI_lo _ | exact bI_hi _ | exact bI_hi' _ | exact trivial | exact Or.inl rfl | exact Or.inr rfl | (exfalso; omega)))
        all_goals exact h1 (fun z => z.2.2.1 hxy)
      · have h01 := bitI_01 (x := G.2.2.2.2.2.2.2.1 x) (j := y) (by omega)
        refine aw_tree (I0_ok X _) [(true, 49)] [] rfl ?_
        repeat' (first | refine And.intro ?_ ?_ | (refine aImp_e0 ?_; intro _) | (refine aImp_n0 ?_; intro _) | (refine aImp_i ?_; intro _))
        all_goals (try (first | omega | exact bI_01 _ | exact bI_lo _ | exact bI_hi _ | exact bI_hi' _ | exact trivial | exact Or.inl rfl | exact Or.inr rfl | (exfalso; omega)))
        refine aw_cf0 (c_isBarred _ sb ss T G L O R P C B D S N t x y (by omega) (by show inR (bitI (G.2.2.2.2.2.2.2.1 x) y); unfold inR; omega)) rfl ?_
        have eb : bI (¬ bAnd (bUshr (G.2.2.2.2.2.2.2.1 x) y) 1 = 0) = bitI (G.2.2.2.2.2.2.2.1 x) y := by
          show bI (¬ bitI (G.2.2.2.2.2.2.2.1 x) y = 0) = bitI (G.2.2.2.2.2.2.2.1 x) y
          rcases h01 with h | h
          · rw [bI_f (fun z => z h), h]
          · rw [bI_t (by omega), h]
        rw [eb]
        by_cases hbv : bitI (G.2.2.2.2.2.2.2.1 x) y = v
        · refine aw_tree (I0_ok X _) [(true, 49)] [] rfl ?_
          repeat' (first | refine And.intro ?_ ?_ | (refine aImp_e0 ?_; intro _) | (refine aImp_n0 ?_; intro _) | (refine aImp_i ?_; intro _))
          all_goals (try (first | omega | exact bI_01 _ | exact bI_lo _ | exact bI_hi _ | exact bI_hi' _ | exact trivial | exact Or.inl rfl | exact Or.inr rfl | (exfalso; omega)))
          exact h1 (fun z => z.2.2.2 hbv)
        · have q := h2 ⟨hxx, hyy, hxy, hbv⟩
          refine aw_tree (I0_ok X _) [(true, 49)] [] rfl ?_
          repeat' (first | refine And.intro ?_ ?_ | (refine aImp_e0 ?_; intro _) | (refine aImp_n0 ?_; intro _) | (refine aImp_i ?_; intro _))
          all_goals (try (first | omega | exact bI_01 _ | exact bI_lo _ | exact bI_hi _ | exact bI_hi' _ | exact trivial | exact Or.inl rfl | exact Or.inr rfl | (exfalso; omega)))
          refine aw_cf0 (c_flipBar _ sb ss T G L O R P C B D S N t x y (by omega) (by omega)) rfl ?_
          rcases hv with rfl | rfl
          · rw [if_pos rfl] at q
            refine aw_tree (I0_ok X _) [(true, 49)] [] rfl ?_
            dsimp only
            repeat' (first | refine And.intro ?_ ?_ | (refine aImp_e0 ?_; intro _) | (refine aImp_n0 ?_; intro _) | (refine aImp_i ?_; intro _))
            all_goals (try (first | omega | exact bI_01 _ | exact bI_lo _ | exact bI_hi _ | exact bI_hi' _ | exact trivial | exact Or.inl rfl | exact Or.inr rfl | (exfalso; omega)))
            exact q
          · rw [if_neg (show ¬ (1 : Int) = 0 from by omega)] at q
            refine aw_tree (I0_ok X _) [(true, 49)] [] rfl ?_
            dsimp only
            repeat' (first | refine And.intro ?_ ?_ | (refine aImp_e0 ?_; intro _) | (refine aImp_n0 ?_; intro _) | (refine aImp_i ?_; intro _))
            all_goals (try (first | omega | exact bI_01 _ | exact bI_lo _ | exact bI_hi _ | exact bI_hi' _ | exact trivial | exact Or.inl rfl | exact Or.inr rfl | (exfalso; omega)))
            exact q
    · rw [bI_f hyy]
      refine aw_tree (I0_ok X _) [(true, 49)] [] rfl ?_
      repeat' (first | refine And.intro ?_ ?_ | (refine aImp_e0 ?_; intro _) | (refine aImp_n0 ?_; intro _) | (refine aImp_i ?_; intro _))
      all_goals (try (first | omega | exact bI_01 _ | exact bI_lo _ | exact bI_hi _ | exact bI_hi' _ | exact trivial | exact Or.inl rfl | exact Or.inr rfl | (exfalso; omega)))
      all_goals exact h1 (fun z => hyy z.2.1)
  · rw [bI_f hxx]
    refine aw_tree (I0_ok X _) [(true, 49)] [] rfl ?_
    repeat' (first | refine And.intro ?_ ?_ | (refine aImp_e0 ?_; intro _) | (refine aImp_n0 ?_; intro _) | (refine aImp_i ?_; intro _))
    all_goals (try (first | omega | exact bI_01 _ | exact bI_lo _ | exact bI_hi _ | exact bI_hi' _ | exact trivial | exact Or.inl rfl | exact Or.inr rfl | (exfalso; omega)))
    all_goals exact h1 (fun z => hxx z.1)

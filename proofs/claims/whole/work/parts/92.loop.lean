set_option maxRecDepth 100000 in
theorem law_loop {X : AX} (hX : X.1 ≤ 3584) (hin : ∀ i, inR (X.2 i)) : ∀ (m : Nat) (i : Int) (kc ks : Nat) (h : AH), Inv h → 0 ≤ i → i ≤ 3600 → (X.1 : Int) < i + 7 * m + 7 → 4 * m ≤ kc → 2705 * m ≤ ks → AW X 12 kc ks 156 10 [scr, rf 0, rf 49, iv i] [] h Q1 := by
  intro m
  induction m with
  | zero =>
    intro i kc ks h hI h0 h1 h2 h3 h4
    have hz := and_inR (X.2 i) 31
    unfold inR at hz
    refine aw_tree (d := 0) (I0_ok X 10) [] [10, 22, 79, 96, 163, 198, 243, 280, 317, 324, 341, 358, 375, 400, 407, 434, 461, 478, 495, 522, 539, 566, 593] rfl ?_
    repeat' (first | refine And.intro ?_ ?_ | (refine aImp_e0 ?_; intro _) | (refine aImp_n0 ?_; intro _) | (refine aImp_i ?_; intro _))
    all_goals (try (first | omega | exact bI_01 _ | exact bI_lo _ | exact bI_hi _ | exact bI_hi' _ | exact trivial | exact Or.inl rfl | exact Or.inr rfl | (exfalso; omega)))
    all_goals rfl
  | succ m ih =>
    intro i kc ks h hI h0 h1 h2 h3 h4
    have hz := and_inR (X.2 i) 31
    unfold inR at hz
    have next : i + 7 ≤ X.1 → ∀ h', Inv h' → ∀ kc' ks', kc ≤ kc' + 4 → ks ≤ ks' + 2705 → AW X 12 kc' ks' 156 10 [scr, rf 0, rf 49, iv (i + 7)] [] h' Q1 := by
      intro hle h' hI' kc' ks' k1 k2
      exact ih (i + 7) kc' ks' h' hI' (by omega) (by omega) (by push_cast at h2; omega) (by omega) (by omega)
    have hI0 := hI
    obtain ⟨sb, ss, T, G, L, O, R, P, C, B, D, S, N, β, mT, mG, mR, mU, mP, mO, mS, mN, rfl, hR⟩ := hI
    refine aw_tree (d := 0) (I0_ok X 10) [] [10, 22, 79, 96, 163, 198, 243, 280, 317, 324, 341, 358, 375, 400, 407, 434, 461, 478, 495, 522, 539, 566, 593] rfl ?_
    repeat' (first | refine And.intro ?_ ?_ | (refine aImp_e0 ?_; intro _) | (refine aImp_n0 ?_; intro _) | (refine aImp_i ?_; intro _))
    all_goals (try (first | omega | exact bI_01 _ | exact bI_lo _ | exact bI_hi _ | exact bI_hi' _ | exact trivial | exact Or.inl rfl | exact Or.inr rfl | (exfalso; omega)))
    all_goals first
      | rfl
      | exact next (by omega) _ hI0 _ _ (by omega) (by omega)
      | exact L_feed sb ss T G L O R P C B D S N β mT mG mR mU mP mO mS mN hR i ⟨h0, by omega⟩ hX hin kc ks (next (by omega))
      | exact L_end sb ss T G L O R P C B D S N β mT mG mR mU mP mO mS mN hR i ⟨h0, by omega⟩ hX hin kc ks (next (by omega))
      | exact L_guest sb ss T G L O R P C B D S N β mT mG mR mU mP mO mS mN hR i ⟨h0, by omega⟩ hX hin kc ks (next (by omega))
      | exact L_gone sb ss T G L O R P C B D S N β mT mG mR mU mP mO mS mN hR i ⟨h0, by omega⟩ hX hin kc ks (next (by omega))
      | exact L_bar sb ss T G L O R P C B D S N β mT mG mR mU mP mO mS mN hR i ⟨h0, by omega⟩ hX hin kc ks (next (by omega))
      | exact L_row sb ss T G L O R P C B D S N β mT mG mR mU mP mO mS mN hR i ⟨h0, by omega⟩ hX hin kc ks (by omega) (by omega) (next (by omega))
      | exact L_set sb ss T G L O R P C B D S N β mT mG mR mU mP mO mS mN hR i ⟨h0, by omega⟩ hX hin kc ks (next (by omega))
      | exact L_rules sb ss T G L O R P C B D S N β mT mG mR mU mP mO mS mN hR i ⟨h0, by omega⟩ hX hin kc ks (next (by omega))
      | exact L_fault sb ss T G L O R P C B D S N β mT mG mR mU mP mO mS mN hR i ⟨h0, by omega⟩ hX hin kc ks (next (by omega))
      | exact L_rank sb ss T G L O R P C B D S N β mT mG mR mU mP mO mS mN hR i ⟨h0, by omega⟩ hX hin kc ks (next (by omega))
      | exact L_ranked sb ss T G L O R P C B D S N β mT mG mR mU mP mO mS mN hR i ⟨h0, by omega⟩ hX hin kc ks (next (by omega))
      | exact L_seat sb ss T G L O R P C B D S N β mT mG mR mU mP mO mS mN hR i ⟨h0, by omega⟩ hX hin kc ks (next (by omega))
      | exact L_moved sb ss T G L O R P C B D S N β mT mG mR mU mP mO mS mN hR i ⟨h0, by omega⟩ hX hin kc ks (next (by omega))
      | exact L_sits sb ss T G L O R P C B D S N β mT mG mR mU mP mO mS mN hR i ⟨h0, by omega⟩ hX hin kc ks (next (by omega))
      | exact L_at sb ss T G L O R P C B D S N β mT mG mR mU mP mO mS mN hR i ⟨h0, by omega⟩ hX hin kc ks (next (by omega))
      | exact L_spare sb ss T G L O R P C B D S N β mT mG mR mU mP mO mS mN hR i ⟨h0, by omega⟩ hX hin kc ks (next (by omega))
      | exact L_hidden sb ss T G L O R P C B D S N β mT mG mR mU mP mO mS mN hR i ⟨h0, by omega⟩ hX hin kc ks (next (by omega))
      | exact L_hider sb ss T G L O R P C B D S N β mT mG mR mU mP mO mS mN hR i ⟨h0, by omega⟩ hX hin kc ks (next (by omega))
      | exact L_stage sb ss T G L O R P C B D S N β mT mG mR mU mP mO mS mN hR i ⟨h0, by omega⟩ hX hin kc ks (next (by omega))
      | exact L_morning sb ss T G L O R P C B D S N β mT mG mR mU mP mO mS mN hR i ⟨h0, by omega⟩ hX hin kc ks (next (by omega))
      | exact L_comes sb ss T G L O R P C B D S N β mT mG mR mU mP mO mS mN hR i ⟨h0, by omega⟩ hX hin kc ks (next (by omega))
      | exact L_all sb ss T G L O R P C B D S N β mT mG mR mU mP mO mS mN hR i ⟨h0, by omega⟩ hX hin kc ks (next (by omega))

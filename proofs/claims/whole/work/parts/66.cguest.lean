set_option maxRecDepth 100000 in
theorem c_guest0 {X : AX} (d : Nat) (ss : Nat) (T : TyT) (G : TyG) (L : TyL) (O : TyO) (R : TyR) (P : TyP) (C : TyC) (B D : TyB) (S N : TyS) (t : AH) (k dt ag wd ey wo : Int) (mG : TyMG) (mU : TyMU) {Q : AQ} (hk : inR k) (hd : inR dt) (ha : inR ag) (hw : inR wd) (he : inR ey) (ho : inR wo) (hc : 0 ≤ G.2.2.2.2.2.2.2.2.1 ∧ G.2.2.2.2.2.2.2.2.1 ≤ 32) (hU : kU mU) (hB : rB B mU)
    (hG : okGuest k dt ag wd ey wo ∧ G.2.2.2.2.2.2.2.2.1 < 32 → kG mG ∧ rGv (addC G k dt ag wd ey wo) mG ∧ (0 ≤ O.2 ∧ O.2 < 32) ∧ (∀ i : Int, 0 ≤ i → i < O.2 → (0 ≤ O.1 i ∧ O.1 i < 32) ∧ ¬ lnM mG mU (O.1 i) = -1))
    (h1 : ¬ (okGuest k dt ag wd ey wo ∧ G.2.2.2.2.2.2.2.2.1 < 32) → Q (some (iv (-1))) (CH 0 ss T G L O R P C B D S N t))
    (h2 : okGuest k dt ag wd ey wo ∧ G.2.2.2.2.2.2.2.2.1 < 32 → lnM mG mU G.2.2.2.2.2.2.2.2.1 = -1 → Q (some (iv G.2.2.2.2.2.2.2.2.1)) (CH 0 ss T (addC G k dt ag wd ey wo) L O R P C B D S N t))
    (h3 : okGuest k dt ag wd ey wo ∧ G.2.2.2.2.2.2.2.2.1 < 32 → ¬ lnM mG mU G.2.2.2.2.2.2.2.2.1 = -1 → Q (some (iv G.2.2.2.2.2.2.2.2.1)) (CH 0 ss T (addC G k dt ag wd ey wo) L (insF (ahM mG mU) G.2.2.2.2.2.2.2.2.1 O.2.toNat O.1, O.2 + 1) R P C B D S N t)) :
    AW X (d + 5) 0 0 80 0 (aEntry 80 [rf 0, iv k, iv dt, iv ag, iv wd, iv ey, iv wo]) [] (CH 0 ss T G L O R P C B D S N t) Q := by
  unfold inR at hk hd ha hw he ho
  by_cases hok : okGuest k dt ag wd ey wo ∧ G.2.2.2.2.2.2.2.2.1 < 32
  · obtain ⟨g1, g2, g3, g4⟩ := hG hok
    have hok' := hok
    unfold okGuest at hok'
    refine aw_tree (I0_ok X _) [(true, 49)] [] rfl ?_
    repeat' (first | refine And.intro ?_ ?_ | (refine aImp_e0 ?_; intro _) | (refine aImp_n0 ?_; intro _) | (refine aImp_i ?_; intro _))
    all_goals (try (first | omega | exact bI_01 _ | exact bI_lo _ | exact bI_hi _ | exact bI_hi' _ | exact trivial | exact Or.inl rfl | exact Or.inr rfl | (exfalso; omega)))
    refine aw_cf0 (c_add _ 0 ss T G L O R P C B D S N t k dt ag wd ey wo (by omega)) rfl ?_
    refine aw_tree (I0_ok X _) [(true, 49)] [] rfl ?_
    refine aw_ck0 (c_insert0 _ 0 ss T (addC G k dt ag wd ey wo) L O R P C B D S N t mG mU G.2.2.2.2.2.2.2.2.1 (by omega) g3 g1 hU g2 hB g4 (fun hl => ?_) (fun hl => ?_)) rfl
    · refine aw_tree (I0_ok X _) [(true, 49)] [] rfl ?_
      exact h2 hok hl
    · refine aw_tree (I0_ok X _) [(true, 49)] [] rfl ?_
      exact h3 hok hl
  · have hno := h1 hok
    unfold okGuest at hok
    refine aw_tree (I0_ok X _) [(true, 49)] [] rfl ?_
    repeat' (first | refine And.intro ?_ ?_ | (refine aImp_e0 ?_; intro _) | (refine aImp_n0 ?_; intro _) | (refine aImp_i ?_; intro _))
    all_goals (try (first | omega | exact bI_01 _ | exact bI_lo _ | exact bI_hi _ | exact bI_hi' _ | exact trivial | exact Or.inl rfl | exact Or.inr rfl | (exfalso; omega)))
    all_goals exact hno
set_option maxRecDepth 100000 in
theorem c_guest1 {X : AX} (d : Nat) (ss : Nat) (T : TyT) (G : TyG) (L : TyL) (O : TyO) (R : TyR) (P : TyP) (C : TyC) (B D : TyB) (S N : TyS) (t : AH) (k dt ag wd ey wo : Int) (mG : TyMG) (mU : TyMU) {Q : AQ} (hk : inR k) (hd : inR dt) (ha : inR ag) (hw : inR wd) (he : inR ey) (ho : inR wo) (hc : 0 ≤ G.2.2.2.2.2.2.2.2.1 ∧ G.2.2.2.2.2.2.2.2.1 ≤ 32) (hU : kU mU) (hB : rB D mU)
    (hG : okGuest k dt ag wd ey wo ∧ G.2.2.2.2.2.2.2.2.1 < 32 → kG mG ∧ rGv (addC G k dt ag wd ey wo) mG ∧ (0 ≤ O.2 ∧ O.2 < 32) ∧ (∀ i : Int, 0 ≤ i → i < O.2 → (0 ≤ O.1 i ∧ O.1 i < 32) ∧ ¬ lnM mG mU (O.1 i) = -1))
    (h1 : ¬ (okGuest k dt ag wd ey wo ∧ G.2.2.2.2.2.2.2.2.1 < 32) → Q (some (iv (-1))) (CH 1 ss T G L O R P C B D S N t))
    (h2 : okGuest k dt ag wd ey wo ∧ G.2.2.2.2.2.2.2.2.1 < 32 → lnM mG mU G.2.2.2.2.2.2.2.2.1 = -1 → Q (some (iv G.2.2.2.2.2.2.2.2.1)) (CH 1 ss T (addC G k dt ag wd ey wo) L O R P C B D S N t))
    (h3 : okGuest k dt ag wd ey wo ∧ G.2.2.2.2.2.2.2.2.1 < 32 → ¬ lnM mG mU G.2.2.2.2.2.2.2.2.1 = -1 → Q (some (iv G.2.2.2.2.2.2.2.2.1)) (CH 1 ss T (addC G k dt ag wd ey wo) L (insF (ahM mG mU) G.2.2.2.2.2.2.2.2.1 O.2.toNat O.1, O.2 + 1) R P C B D S N t)) :
    AW X (d + 5) 0 0 80 0 (aEntry 80 [rf 0, iv k, iv dt, iv ag, iv wd, iv ey, iv wo]) [] (CH 1 ss T G L O R P C B D S N t) Q := by
  unfold inR at hk hd ha hw he ho
  by_cases hok : okGuest k dt ag wd ey wo ∧ G.2.2.2.2.2.2.2.2.1 < 32
  · obtain ⟨g1, g2, g3, g4⟩ := hG hok
    have hok' := hok
    unfold okGuest at hok'
    refine aw_tree (I0_ok X _) [(true, 49)] [] rfl ?_
    repeat' (first | refine And.intro ?_ ?_ | (refine aImp_e0 ?_; intro _) | (refine aImp_n0 ?_; intro _) | (refine aImp_i ?_; intro _))
    all_goals (try (first | omega | exact bI_01 _ | exact bI_lo _ | exact bI_hi _ | exact bI_hi' _ | exact trivial | exact Or.inl rfl | exact Or.inr rfl | (exfalso; omega)))
    refine aw_cf0 (c_add _ 1 ss T G L O R P C B D S N t k dt ag wd ey wo (by omega)) rfl ?_
    refine aw_tree (I0_ok X _) [(true, 49)] [] rfl ?_
    refine aw_ck0 (c_insert1 _ 1 ss T (addC G k dt ag wd ey wo) L O R P C B D S N t mG mU G.2.2.2.2.2.2.2.2.1 (by omega) g3 g1 hU g2 hB g4 (fun hl => ?_) (fun hl => ?_)) rfl
    · refine aw_tree (I0_ok X _) [(true, 49)] [] rfl ?_
      exact h2 hok hl
    · refine aw_tree (I0_ok X _) [(true, 49)] [] rfl ?_
      exact h3 hok hl
  · have hno := h1 hok
    unfold okGuest at hok
    refine aw_tree (I0_ok X _) [(true, 49)] [] rfl ?_
    repeat' (first | refine And.intro ?_ ?_ | (refine aImp_e0 ?_; intro _) | (refine aImp_n0 ?_; intro _) | (refine aImp_i ?_; intro _))
    all_goals (try (first | omega | exact bI_01 _ | exact bI_lo _ | exact bI_hi _ | exact bI_hi' _ | exact trivial | exact Or.inl rfl | exact Or.inr rfl | (exfalso; omega)))
    all_goals exact hno

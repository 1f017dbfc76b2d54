abbrev gnG (G : TyG) (g v : Int) : TyG := (G.1, G.2.1, G.2.2.1, G.2.2.2.1, G.2.2.2.2.1, G.2.2.2.2.2.1, aUp G.2.2.2.2.2.2.1 g v, G.2.2.2.2.2.2.2.1, G.2.2.2.2.2.2.2.2.1, G.2.2.2.2.2.2.2.2.2.1 + (if v = 0 then -1 else 1), G.2.2.2.2.2.2.2.2.2.2)
set_option maxRecDepth 100000 in
theorem c_gone0 {X : AX} (d : Nat) (ss : Nat) (T : TyT) (G : TyG) (L : TyL) (O : TyO) (R : TyR) (P : TyP) (C : TyC) (B D : TyB) (S N : TyS) (t : AH) (g v : Int) (mG : TyMG) (mU : TyMU) {Q : AQ} (hg : inR g) (hv : v = 0 ∨ v = 1) (hc : 0 ≤ G.2.2.2.2.2.2.2.2.1 ∧ G.2.2.2.2.2.2.2.2.1 ≤ 32) (h01 : ∀ i, 0 ≤ i → i < 32 → G.2.2.2.2.2.2.1 i = 0 ∨ G.2.2.2.2.2.2.1 i = 1) (hU : kU mU) (hB : rB B mU) (hO : 0 ≤ O.2 ∧ O.2 ≤ 32) (hOr : ∀ i, 0 ≤ i → i < O.2 → inR (O.1 i))
    (hG : (0 ≤ g ∧ g < G.2.2.2.2.2.2.2.2.1) ∧ G.2.2.2.2.2.2.1 g ≠ v → v = 0 → kG mG ∧ rGv (gnG G g v) mG ∧ O.2 < 32 ∧ (∀ i : Int, 0 ≤ i → i < O.2 → (0 ≤ O.1 i ∧ O.1 i < 32) ∧ ¬ lnM mG mU (O.1 i) = -1))
    (h1 : ¬ ((0 ≤ g ∧ g < G.2.2.2.2.2.2.2.2.1) ∧ G.2.2.2.2.2.2.1 g ≠ v) → Q (some (iv 0)) (CH 0 ss T G L O R P C B D S N t))
    (h2 : (0 ≤ g ∧ g < G.2.2.2.2.2.2.2.2.1) ∧ G.2.2.2.2.2.2.1 g ≠ v → v = 0 → lnM mG mU g = -1 → Q (some (iv 1)) (CH 0 ss T (gnG G g v) L O R P C B D S N t))
    (h3 : (0 ≤ g ∧ g < G.2.2.2.2.2.2.2.2.1) ∧ G.2.2.2.2.2.2.1 g ≠ v → v = 0 → ¬ lnM mG mU g = -1 → Q (some (iv 1)) (CH 0 ss T (gnG G g v) L (insF (ahM mG mU) g O.2.toNat O.1, O.2 + 1) R P C B D S N t))
    (h4 : (0 ≤ g ∧ g < G.2.2.2.2.2.2.2.2.1) ∧ G.2.2.2.2.2.2.1 g ≠ v → v = 1 → (∀ i, 0 ≤ i → i < O.2 → O.1 i ≠ g) → Q (some (iv 1)) (CH 0 ss T (gnG G g v) L O R P C B D S N t))
    (h5 : (0 ≤ g ∧ g < G.2.2.2.2.2.2.2.2.1) ∧ G.2.2.2.2.2.2.1 g ≠ v → v = 1 → ∀ j, 0 ≤ j → j < O.2 → O.1 j = g → ∀ f : FN, (∀ k, 0 ≤ k → k < j → f k = O.1 k) → (∀ k, j ≤ k → k < O.2 - 1 → f k = O.1 (k + 1)) → Q (some (iv 1)) (CH 0 ss T (gnG G g v) L (f, O.2 - 1) R P C B D S N t)) :
    AW X (d + 5) 0 0 81 0 (aEntry 81 [rf 0, iv g, iv v]) [] (CH 0 ss T G L O R P C B D S N t) Q := by
  refine aw_tree (I0_ok X _) [(true, 49)] [] rfl ?_
  refine aw_cf0 (c_has _ 0 ss T G L O R P C B D S N t g hg hc) rfl ?_
  by_cases hh : 0 ≤ g ∧ g < G.2.2.2.2.2.2.2.2.1
  · rw [bI_t hh]
    have hg01 := h01 g hh.1 (by omega)
    by_cases he : G.2.2.2.2.2.2.1 g = v
    · refine aw_tree (I0_ok X _) [(true, 49)] [] rfl ?_
      repeat' (first | refine And.intro ?_ ?_ | (refine aImp_e0 ?_; intro _) | (refine aImp_n0 ?_; intro _) | (refine aImp_i ?_; intro _))
      all_goals (try (first | omega | exact bI_01 _ | exact bI_lo _ | exact bI_hi _ | exact bI_hi' _ | exact trivial | exact Or.inl rfl | exact Or.inr rfl | (exfalso; omega)))
      all_goals exact h1 (fun z => z.2 he)
    · have hok : (0 ≤ g ∧ g < G.2.2.2.2.2.2.2.2.1) ∧ G.2.2.2.2.2.2.1 g ≠ v := ⟨hh, he⟩
      refine aw_tree (I0_ok X _) [(true, 49)] [] rfl ?_
      repeat' (first | refine And.intro ?_ ?_ | (refine aImp_e0 ?_; intro _) | (refine aImp_n0 ?_; intro _) | (refine aImp_i ?_; intro _))
      all_goals (try (first | omega | exact bI_01 _ | exact bI_lo _ | exact bI_hi _ | exact bI_hi' _ | exact trivial | exact Or.inl rfl | exact Or.inr rfl | (exfalso; omega)))
      refine aw_cf0 (c_markGone _ 0 ss T G L O R P C B D S N t g v (by omega) hv) rfl ?_
      rcases hv with rfl | rfl
      · obtain ⟨g1, g2, g3, g4⟩ := hG hok rfl
        refine aw_tree (I0_ok X _) [(true, 49)] [] rfl ?_
        dsimp only
        repeat' (first | refine And.intro ?_ ?_ | (refine aImp_e0 ?_; intro _) | (refine aImp_n0 ?_; intro _) | (refine aImp_i ?_; intro _))
        all_goals (try (first | omega | exact bI_01 _ | exact bI_lo _ | exact bI_hi _ | exact bI_hi' _ | exact trivial | exact Or.inl rfl | exact Or.inr rfl | (exfalso; omega)))
        refine aw_ck0 (c_insert0 _ 0 ss T (gnG G g 0) L O R P C B D S N t mG mU g (by omega) ⟨hO.1, g3⟩ g1 hU g2 hB g4 (fun hl => ?_) (fun hl => ?_)) rfl
        · refine aw_tree (I0_ok X _) [(true, 49)] [] rfl ?_
          exact ⟨Or.inr rfl, h2 hok rfl hl⟩
        · refine aw_tree (I0_ok X _) [(true, 49)] [] rfl ?_
          exact ⟨Or.inr rfl, h3 hok rfl hl⟩
      · refine aw_tree (I0_ok X _) [(true, 49)] [] rfl ?_
        dsimp only
        repeat' (first | refine And.intro ?_ ?_ | (refine aImp_e0 ?_; intro _) | (refine aImp_n0 ?_; intro _) | (refine aImp_i ?_; intro _))
        all_goals (try (first | omega | exact bI_01 _ | exact bI_lo _ | exact bI_hi _ | exact bI_hi' _ | exact trivial | exact Or.inl rfl | exact Or.inr rfl | (exfalso; omega)))
        refine aw_ck0 (c_remove _ 0 ss T (gnG G g 1) L O R P C B D S N t g hg hO hOr (fun hl => ?_) (fun j j0 j1 hj f f1 f2 => ?_)) rfl
        · refine aw_tree (I0_ok X _) [(true, 49)] [] rfl ?_
          exact ⟨Or.inr rfl, h4 hok rfl hl⟩
        · refine aw_tree (I0_ok X _) [(true, 49)] [] rfl ?_
          exact ⟨Or.inr rfl, h5 hok rfl j j0 j1 hj f f1 f2⟩
  · rw [bI_f hh]
    refine aw_tree (I0_ok X _) [(true, 49)] [] rfl ?_
    repeat' (first | refine And.intro ?_ ?_ | (refine aImp_e0 ?_; intro _) | (refine aImp_n0 ?_; intro _) | (refine aImp_i ?_; intro _))
    all_goals (try (first | omega | exact bI_01 _ | exact bI_lo _ | exact bI_hi _ | exact bI_hi' _ | exact trivial | exact Or.inl rfl | exact Or.inr rfl | (exfalso; omega)))
    all_goals exact h1 (fun z => hh z.1)
set_option maxRecDepth 100000 in
theorem c_gone1 {X : AX} (d : Nat) (ss : Nat) (T : TyT) (G : TyG) (L : TyL) (O : TyO) (R : TyR) (P : TyP) (C : TyC) (B D : TyB) (S N : TyS) (t : AH) (g v : Int) (mG : TyMG) (mU : TyMU) {Q : AQ} (hg : inR g) (hv : v = 0 ∨ v = 1) (hc : 0 ≤ G.2.2.2.2.2.2.2.2.1 ∧ G.2.2.2.2.2.2.2.2.1 ≤ 32) (h01 : ∀ i, 0 ≤ i → i < 32 → G.2.2.2.2.2.2.1 i = 0 ∨ G.2.2.2.2.2.2.1 i = 1) (hU : kU mU) (hB : rB D mU) (hO : 0 ≤ O.2 ∧ O.2 ≤ 32) (hOr : ∀ i, 0 ≤ i → i < O.2 → inR (O.1 i))
    (hG : (0 ≤ g ∧ g < G.2.2.2.2.2.2.2.2.1) ∧ G.2.2.2.2.2.2.1 g ≠ v → v = 0 → kG mG ∧ rGv (gnG G g v) mG ∧ O.2 < 32 ∧ (∀ i : Int, 0 ≤ i → i < O.2 → (0 ≤ O.1 i ∧ O.1 i < 32) ∧ ¬ lnM mG mU (O.1 i) = -1))
    (h1 : ¬ ((0 ≤ g ∧ g < G.2.2.2.2.2.2.2.2.1) ∧ G.2.2.2.2.2.2.1 g ≠ v) → Q (some (iv 0)) (CH 1 ss T G L O R P C B D S N t))
    (h2 : (0 ≤ g ∧ g < G.2.2.2.2.2.2.2.2.1) ∧ G.2.2.2.2.2.2.1 g ≠ v → v = 0 → lnM mG mU g = -1 → Q (some (iv 1)) (CH 1 ss T (gnG G g v) L O R P C B D S N t))
    (h3 : (0 ≤ g ∧ g < G.2.2.2.2.2.2.2.2.1) ∧ G.2.2.2.2.2.2.1 g ≠ v → v = 0 → ¬ lnM mG mU g = -1 → Q (some (iv 1)) (CH 1 ss T (gnG G g v) L (insF (ahM mG mU) g O.2.toNat O.1, O.2 + 1) R P C B D S N t))
    (h4 : (0 ≤ g ∧ g < G.2.2.2.2.2.2.2.2.1) ∧ G.2.2.2.2.2.2.1 g ≠ v → v = 1 → (∀ i, 0 ≤ i → i < O.2 → O.1 i ≠ g) → Q (some (iv 1)) (CH 1 ss T (gnG G g v) L O R P C B D S N t))
    (h5 : (0 ≤ g ∧ g < G.2.2.2.2.2.2.2.2.1) ∧ G.2.2.2.2.2.2.1 g ≠ v → v = 1 → ∀ j, 0 ≤ j → j < O.2 → O.1 j = g → ∀ f : FN, (∀ k, 0 ≤ k → k < j → f k = O.1 k) → (∀ k, j ≤ k → k < O.2 - 1 → f k = O.1 (k + 1)) → Q (some (iv 1)) (CH 1 ss T (gnG G g v) L (f, O.2 - 1) R P C B D S N t)) :
    AW X (d + 5) 0 0 81 0 (aEntry 81 [rf 0, iv g, iv v]) [] (CH 1 ss T G L O R P C B D S N t) Q := by
  refine aw_tree (I0_ok X _) [(true, 49)] [] rfl ?_
  refine aw_cf0 (c_has _ 1 ss T G L O R P C B D S N t g hg hc) rfl ?_
  by_cases hh : 0 ≤ g ∧ g < G.2.2.2.2.2.2.2.2.1
  · rw [bI_t hh]
    have hg01 := h01 g hh.1 (by omega)
    by_cases he : G.2.2.2.2.2.2.1 g = v
    · refine aw_tree (I0_ok X _) [(true, 49)] [] rfl ?_
      repeat' (first | refine And.intro ?_ ?_ | (refine aImp_e0 ?_; intro _) | (refine aImp_n0 ?_; intro _) | (refine aImp_i ?_; intro _))
      all_goals (try (first | omega | exact bI_01 _ | exact bI_lo _ | exact bI_hi _ | exact bI_hi' _ | exact trivial | exact Or.inl rfl | exact Or.inr rfl | (exfalso; omega)))
      all_goals exact h1 (fun z => z.2 he)
    · have hok : (0 ≤ g ∧ g < G.2.2.2.2.2.2.2.2.1) ∧ G.2.2.2.2.2.2.1 g ≠ v := ⟨hh, he⟩
      refine aw_tree (I0_ok X _) [(true, 49)] [] rfl ?_
      repeat' (first | refine And.intro ?_ ?_ | (refine aImp_e0 ?_; intro _) | (refine aImp_n0 ?_; intro _) | (refine aImp_i ?_; intro _))
      all_goals (try (first | omega | exact bI_01 _ | exact bI_lo _ | exact bI_hi _ | exact bI_hi' _ | exact trivial | exact Or.inl rfl | exact Or.inr rfl | (exfalso; omega)))
      refine aw_cf0 (c_markGone _ 1 ss T G L O R P C B D S N t g v (by omega) hv) rfl ?_
      rcases hv with rfl | rfl
      · obtain ⟨g1, g2, g3, g4⟩ := hG hok rfl
        refine aw_tree (I0_ok X _) [(true, 49)] [] rfl ?_
        dsimp only
        repeat' (first | refine And.intro ?_ ?_ | (refine aImp_e0 ?_; intro _) | (refine aImp_n0 ?_; intro _) | (refine aImp_i ?_; intro _))
        all_goals (try (first | omega | exact bI_01 _ | exact bI_lo _ | exact bI_hi _ | exact bI_hi' _ | exact trivial | exact Or.inl rfl | exact Or.inr rfl | (exfalso; omega)))
        refine aw_ck0 (c_insert1 _ 1 ss T (gnG G g 0) L O R P C B D S N t mG mU g (by omega) ⟨hO.1, g3⟩ g1 hU g2 hB g4 (fun hl => ?_) (fun hl => ?_)) rfl
        · refine aw_tree (I0_ok X _) [(true, 49)] [] rfl ?_
          exact ⟨Or.inr rfl, h2 hok rfl hl⟩
        · refine aw_tree (I0_ok X _) [(true, 49)] [] rfl ?_
          exact ⟨Or.inr rfl, h3 hok rfl hl⟩
      · refine aw_tree (I0_ok X _) [(true, 49)] [] rfl ?_
        dsimp only
        repeat' (first | refine And.intro ?_ ?_ | (refine aImp_e0 ?_; intro _) | (refine aImp_n0 ?_; intro _) | (refine aImp_i ?_; intro _))
        all_goals (try (first | omega | exact bI_01 _ | exact bI_lo _ | exact bI_hi _ | exact bI_hi' _ | exact trivial | exact Or.inl rfl | exact Or.inr rfl | (exfalso; omega)))
        refine aw_ck0 (c_remove _ 1 ss T (gnG G g 1) L O R P C B D S N t g hg hO hOr (fun hl => ?_) (fun j j0 j1 hj f f1 f2 => ?_)) rfl
        · refine aw_tree (I0_ok X _) [(true, 49)] [] rfl ?_
          exact ⟨Or.inr rfl, h4 hok rfl hl⟩
        · refine aw_tree (I0_ok X _) [(true, 49)] [] rfl ?_
          exact ⟨Or.inr rfl, h5 hok rfl j j0 j1 hj f f1 f2⟩
  · rw [bI_f hh]
    refine aw_tree (I0_ok X _) [(true, 49)] [] rfl ?_
    repeat' (first | refine And.intro ?_ ?_ | (refine aImp_e0 ?_; intro _) | (refine aImp_n0 ?_; intro _) | (refine aImp_i ?_; intro _))
    all_goals (try (first | omega | exact bI_01 _ | exact bI_lo _ | exact bI_hi _ | exact bI_hi' _ | exact trivial | exact Or.inl rfl | exact Or.inr rfl | (exfalso; omega)))
    all_goals exact h1 (fun z => hh z.1)

theorem c_sits0 {X : AX} (d : Nat) (sb : Nat) (T : TyT) (G : TyG) (L : TyL) (O : TyO) (R : TyR) (P : TyP) (C : TyC) (B D : TyB) (S N : TyS) (t : AH) (g w : Int) {Q : AQ} (hg : inR g) (hw : inR w) (hr : inR (S.1 g))
    (h1 : ¬ (((0 ≤ g ∧ g ≤ 31) ∧ ¬ S.1 g = -2) ∧ (0 ≤ w ∧ w ≤ 2)) → Q (some (iv (-2))) (CH sb 0 T G L O R P C B D S N t))
    (h2 : ((0 ≤ g ∧ g ≤ 31) ∧ ¬ S.1 g = -2) ∧ (0 ≤ w ∧ w ≤ 2) → Q (some (iv (cif (w = 0 ∨ S.1 g = -1) (S.1 g) (cif (w = 1) (S.2.1 g) (S.2.1 g + G.2.2.2.1 g - 1))))) (CH sb 0 T G L O R P C B D S N t)) :
    AW X (d + 5) 0 0 91 0 (aEntry 91 [rf 0, iv g, iv w]) [] (CH sb 0 T G L O R P C B D S N t) Q := by
  have hg' := hg
  have hw' := hw
  have hr' := hr
  unfold inR at hg' hw' hr'
  refine aw_tree (I0_ok X _) [(true, 49)] [] rfl ?_
  refine aw_cf0 (c_holds0 _ sb 0 T G L O R P C B D S N t g hg hr) rfl ?_
  by_cases hh : (0 ≤ g ∧ g ≤ 31) ∧ ¬ S.1 g = -2
  · rw [bI_t hh]
    by_cases hww : 0 ≤ w ∧ w ≤ 2
    · have q := h2 ⟨hh, hww⟩
      by_cases hw0 : w = 0
      · rw [cif_t (Or.inl hw0)] at q
        refine aw_tree (I0_ok X _) [(true, 49)] [] rfl ?_
        repeat' (first | refine And.intro ?_ ?_ | (refine aImp_e0 ?_; intro _) | (refine aImp_n0 ?_; intro _) | (refine aImp_i ?_; intro _))
        all_goals (try (first | omega | exact bI_01 _ | exact bI_lo _ | exact bI_hi _ | exact bI_hi' _ | exact trivial | exact Or.inl rfl | exact Or.inr rfl | (exfalso; omega)))
        exact q
      · refine aw_tree (I0_ok X _) [(true, 49)] [] rfl ?_
        repeat' (first | refine And.intro ?_ ?_ | (refine aImp_e0 ?_; intro _) | (refine aImp_n0 ?_; intro _) | (refine aImp_i ?_; intro _))
        all_goals (try (first | omega | exact bI_01 _ | exact bI_lo _ | exact bI_hi _ | exact bI_hi' _ | exact trivial | exact Or.inl rfl | exact Or.inr rfl | (exfalso; omega)))
        refine aw_cf0 (c_isSeated0 _ sb 0 T G L O R P C B D S N t g hg hr) rfl ?_
        by_cases hs : S.1 g = -1
        · rw [cif_t (Or.inr hs)] at q
          rw [bI_f (fun z => z.2.2 hs)]
          refine aw_tree (I0_ok X _) [(true, 49)] [] rfl ?_
          repeat' (first | refine And.intro ?_ ?_ | (refine aImp_e0 ?_; intro _) | (refine aImp_n0 ?_; intro _) | (refine aImp_i ?_; intro _))
          all_goals (try (first | omega | exact bI_01 _ | exact bI_lo _ | exact bI_hi _ | exact bI_hi' _ | exact trivial | exact Or.inl rfl | exact Or.inr rfl | (exfalso; omega)))
          exact q
        · rw [cif_f (fun z => by omega)] at q
          rw [bI_t ⟨hh.1, hh.2, hs⟩]
          refine aw_tree (I0_ok X _) [(true, 49)] [] rfl ?_
          repeat' (first | refine And.intro ?_ ?_ | (refine aImp_e0 ?_; intro _) | (refine aImp_n0 ?_; intro _) | (refine aImp_i ?_; intro _))
          all_goals (try (first | omega | exact bI_01 _ | exact bI_lo _ | exact bI_hi _ | exact bI_hi' _ | exact trivial | exact Or.inl rfl | exact Or.inr rfl | (exfalso; omega)))
          · rw [cif_f (by omega)] at q
            exact q
          · rw [cif_t (by omega)] at q
            exact q
    · refine aw_tree (I0_ok X _) [(true, 49)] [] rfl ?_
      repeat' (first | refine And.intro ?_ ?_ | (refine aImp_e0 ?_; intro _) | (refine aImp_n0 ?_; intro _) | (refine aImp_i ?_; intro _))
      all_goals (try (first | omega | exact bI_01 _ | exact bI_lo _ | exact bI_hi _ | exact bI_hi' _ | exact trivial | exact Or.inl rfl | exact Or.inr rfl | (exfalso; omega)))
      all_goals exact h1 (fun z => hww z.2)
  · rw [bI_f hh]
    refine aw_tree (I0_ok X _) [(true, 49)] [] rfl ?_
    repeat' (first | refine And.intro ?_ ?_ | (refine aImp_e0 ?_; intro _) | (refine aImp_n0 ?_; intro _) | (refine aImp_i ?_; intro _))
    all_goals (try (first | omega | exact bI_01 _ | exact bI_lo _ | exact bI_hi _ | exact bI_hi' _ | exact trivial | exact Or.inl rfl | exact Or.inr rfl | (exfalso; omega)))
    all_goals exact h1 (fun z => hh z.1)
theorem c_sits1 {X : AX} (d : Nat) (sb : Nat) (T : TyT) (G : TyG) (L : TyL) (O : TyO) (R : TyR) (P : TyP) (C : TyC) (B D : TyB) (S N : TyS) (t : AH) (g w : Int) {Q : AQ} (hg : inR g) (hw : inR w) (hr : inR (N.1 g))
    (h1 : ¬ (((0 ≤ g ∧ g ≤ 31) ∧ ¬ N.1 g = -2) ∧ (0 ≤ w ∧ w ≤ 2)) → Q (some (iv (-2))) (CH sb 1 T G L O R P C B D S N t))
    (h2 : ((0 ≤ g ∧ g ≤ 31) ∧ ¬ N.1 g = -2) ∧ (0 ≤ w ∧ w ≤ 2) → Q (some (iv (cif (w = 0 ∨ N.1 g = -1) (N.1 g) (cif (w = 1) (N.2.1 g) (N.2.1 g + G.2.2.2.1 g - 1))))) (CH sb 1 T G L O R P C B D S N t)) :
    AW X (d + 5) 0 0 91 0 (aEntry 91 [rf 0, iv g, iv w]) [] (CH sb 1 T G L O R P C B D S N t) Q := by
  have hg' := hg
  have hw' := hw
  have hr' := hr
  unfold inR at hg' hw' hr'
  refine aw_tree (I0_ok X _) [(true, 49)] [] rfl ?_
  refine aw_cf0 (c_holds1 _ sb 1 T G L O R P C B D S N t g hg hr) rfl ?_
  by_cases hh : (0 ≤ g ∧ g ≤ 31) ∧ ¬ N.1 g = -2
  · rw [bI_t hh]
    by_cases hww : 0 ≤ w ∧ w ≤ 2
    · have q := h2 ⟨hh, hww⟩
      by_cases hw0 : w = 0
      · rw [cif_t (Or.inl hw0)] at q
        refine aw_tree (I0_ok X _) [(true, 49)] [] rfl ?_
        repeat' (first | refine And.intro ?_ ?_ | (refine aImp_e0 ?_; intro _) | (refine aImp_n0 ?_; intro _) | (refine aImp_i ?_; intro _))
        all_goals (try (first | omega | exact bI_01 _ | exact bI_lo _ | exact bI_hi _ | exact bI_hi' _ | exact trivial | exact Or.inl rfl | exact Or.inr rfl | (exfalso; omega)))
        exact q
      · refine aw_tree (I0_ok X _) [(true, 49)] [] rfl ?_
        repeat' (first | refine And.intro ?_ ?_ | (refine aImp_e0 ?_; intro _) | (refine aImp_n0 ?_; intro _) | (refine aImp_i ?_; intro _))
        all_goals (try (first | omega | exact bI_01 _ | exact bI_lo _ | exact bI_hi _ | exact bI_hi' _ | exact trivial | exact Or.inl rfl | exact Or.inr rfl | (exfalso; omega)))
        refine aw_cf0 (c_isSeated1 _ sb 1 T G L O R P C B D S N t g hg hr) rfl ?_
        by_cases hs : N.1 g = -1
        · rw [cif_t (Or.inr hs)] at q
          rw [bI_f (fun z => z.2.2 hs)]
          refine aw_tree (I0_ok X _) [(true, 49)] [] rfl ?_
          repeat' (first | refine And.intro ?_ ?_ | (refine aImp_e0 ?_; intro _) | (refine aImp_n0 ?_; intro _) | (refine aImp_i ?_; intro _))
          all_goals (try (first | omega | exact bI_01 _ | exact bI_lo _ | exact bI_hi _ | exact bI_hi' _ | exact trivial | exact Or.inl rfl | exact Or.inr rfl | (exfalso; omega)))
          exact q
        · rw [cif_f (fun z => by omega)] at q
          rw [bI_t ⟨hh.1, hh.2, hs⟩]
          refine aw_tree (I0_ok X _) [(true, 49)] [] rfl ?_
          repeat' (first | refine And.intro ?_ ?_ | (refine aImp_e0 ?_; intro _) | (refine aImp_n0 ?_; intro _) | (refine aImp_i ?_; intro _))
          all_goals (try (first | omega | exact bI_01 _ | exact bI_lo _ | exact bI_hi _ | exact bI_hi' _ | exact trivial | exact Or.inl rfl | exact Or.inr rfl | (exfalso; omega)))
          · rw [cif_f (by omega)] at q
            exact q
          · rw [cif_t (by omega)] at q
            exact q
    · refine aw_tree (I0_ok X _) [(true, 49)] [] rfl ?_
      repeat' (first | refine And.intro ?_ ?_ | (refine aImp_e0 ?_; intro _) | (refine aImp_n0 ?_; intro _) | (refine aImp_i ?_; intro _))
      all_goals (try (first | omega | exact bI_01 _ | exact bI_lo _ | exact bI_hi _ | exact bI_hi' _ | exact trivial | exact Or.inl rfl | exact Or.inr rfl | (exfalso; omega)))
      all_goals exact h1 (fun z => hww z.2)
  · rw [bI_f hh]
    refine aw_tree (I0_ok X _) [(true, 49)] [] rfl ?_
    repeat' (first | refine And.intro ?_ ?_ | (refine aImp_e0 ?_; intro _) | (refine aImp_n0 ?_; intro _) | (refine aImp_i ?_; intro _))
    all_goals (try (first | omega | exact bI_01 _ | exact bI_lo _ | exact bI_hi _ | exact bI_hi' _ | exact trivial | exact Or.inl rfl | exact Or.inr rfl | (exfalso; omega)))
    all_goals exact h1 (fun z => hh z.1)
theorem c_comes {X : AX} (d : Nat) (sb ss : Nat) (T : TyT) (G : TyG) (L : TyL) (O : TyO) (R : TyR) (P : TyP) (C : TyC) (B D : TyB) (S N : TyS) (t : AH) (g w : Int) (hg : inR g) (hw : inR w) (hG : 0 ≤ G.2.2.2.2.2.2.2.2.1 ∧ G.2.2.2.2.2.2.2.2.1 ≤ 32) : AF X (d + 4) 0 0 98 [rf 0, iv g, iv w] (CH sb ss T G L O R P C B D S N t) (some (iv (cif (0 ≤ g ∧ g < G.2.2.2.2.2.2.2.2.1) (cif (w = 0) (C.1 g) (cif (w = 1) (C.2.1 g) (cif (w = 2) (C.2.2.1 g) (-1)))) (-1)))) (CH sb ss T G L O R P C B D S N t) := by
  unfold inR at hw
  refine aw_tree (I0_ok X _) [(true, 49)] [] rfl ?_
  refine aw_cf0 (c_has _ sb ss T G L O R P C B D S N t g hg hG) rfl ?_
  by_cases hh : 0 ≤ g ∧ g < G.2.2.2.2.2.2.2.2.1
  · rw [bI_t hh, cif_t hh]
    refine aw_tree (I0_ok X _) [(true, 49)] [] rfl ?_
    repeat' (first | refine And.intro ?_ ?_ | (refine aImp_e0 ?_; intro _) | (refine aImp_n0 ?_; intro _) | (refine aImp_i ?_; intro _))
    all_goals (try (first | omega | exact bI_01 _ | exact bI_lo _ | exact bI_hi _ | exact bI_hi' _ | exact trivial | exact Or.inl rfl | exact Or.inr rfl | (exfalso; omega)))
    all_goals first
      | rfl
      | rw [cif_t (by omega)]
      | rw [cif_f (by omega), cif_t (by omega)]
      | rw [cif_f (by omega), cif_f (by omega), cif_t (by omega)]
      | rw [cif_f (by omega), cif_f (by omega), cif_f (by omega)]
  · rw [bI_f hh, cif_f hh]
    refine aw_tree (I0_ok X _) [(true, 49)] [] rfl ?_
    repeat' (first | refine And.intro ?_ ?_ | (refine aImp_e0 ?_; intro _) | (refine aImp_n0 ?_; intro _) | (refine aImp_i ?_; intro _))
    all_goals (try (first | omega | exact bI_01 _ | exact bI_lo _ | exact bI_hi _ | exact bI_hi' _ | exact trivial | exact Or.inl rfl | exact Or.inr rfl | (exfalso; omega)))
    all_goals rfl

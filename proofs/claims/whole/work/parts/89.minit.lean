/-! ===== the model's constructor ===== -/
theorem m_ini_loop {X : AX} (d : Nat) (a : AC49) {Q : AQ} (hQ : Q none (CV a (MV (MA (zf, 0) (zf, zf, zf, 0) (zf, zf, zf, 0, 60, 1, 5) (fil zf (-1) 8, zf, zf, 0) (zf, zf, zf, 0, -1, 0, 0, 0) (zf, 0) (zf, zf, zf, zf, zf, 0, 0, 0, 0) (zf, zf, zf, zf, 0, 0)) []))) :
    ∀ (m k : Nat), k + m = 8 → AW X (d + 2) 0 0 111 153 [rf 49, iv k] [] (CV a (MV (MA (zf, 0) (zf, zf, zf, 0) (zf, zf, zf, 0, 60, 1, 5) (fil zf (-1) k, zf, zf, 0) (zf, zf, zf, 0, -1, 0, 0, 0) (zf, 0) (zf, zf, zf, zf, zf, 0, 0, 0, 0) (zf, zf, zf, zf, 0, 0)) [])) Q := by
  intro m
  induction m with
  | zero =>
    intro k hk
    have e : k = 8 := by omega
    subst e
    refine aw_tree (I0_ok X _) [(false, 49), (true, 24)] [153] rfl ?_
    dsimp only
    repeat' (first | refine And.intro ?_ ?_ | (refine aImp_e0 ?_; intro _) | (refine aImp_n0 ?_; intro _) | (refine aImp_i ?_; intro _))
    all_goals (try (first | omega | exact bI_01 _ | exact bI_lo _ | exact bI_hi _ | exact bI_hi' _ | exact trivial | exact Or.inl rfl | exact Or.inr rfl | (exfalso; omega)))
    exact hQ
  | succ m ih =>
    intro k hk
    refine aw_tree (I0_ok X _) [(false, 49), (true, 24)] [153] rfl ?_
    dsimp only
    repeat' (first | refine And.intro ?_ ?_ | (refine aImp_e0 ?_; intro _) | (refine aImp_n0 ?_; intro _) | (refine aImp_i ?_; intro _))
    all_goals (try (first | omega | exact bI_01 _ | exact bI_lo _ | exact bI_hi _ | exact bI_hi' _ | exact trivial | exact Or.inl rfl | exact Or.inr rfl | (exfalso; omega)))
    exact ih (k + 1) (by omega)
set_option maxRecDepth 100000 in
theorem m_init {X : AX} (d : Nat) (a : AC49) : AF X (d + 2) 23 271013 111 [rf 49] (CV a [ob 12 (aDefs 12)]) none (CV a (MV (MA (zf, 0) (zf, zf, zf, 0) (zf, zf, zf, 0, 60, 1, 5) (fil zf (-1) 8, zf, zf, 0) (zf, zf, zf, 0, -1, 0, 0, 0) (zf, 0) (zf, zf, zf, zf, zf, 0, 0, 0, 0) (zf, zf, zf, zf, 0, 0)) [])) := by
  refine aw_tree (I0_ok X _) [(false, 49), (true, 1)] [] rfl ?_
  refine aw_oi rfl rfl ?_
  refine aw_tree (I0_ok X _) [(false, 49), (true, 3)] [16] rfl ?_
  dsimp only
  repeat' (first | refine And.intro ?_ ?_ | (refine aImp_e0 ?_; intro _) | (refine aImp_n0 ?_; intro _) | (refine aImp_i ?_; intro _))
  all_goals (try (first | omega | exact bI_01 _ | exact bI_lo _ | exact bI_hi _ | exact bI_hi' _ | exact trivial | exact Or.inl rfl | exact Or.inr rfl | (exfalso; omega)))
  show AW X (d + 2) 21 270621 111 16 [rf 49, jk] [] (CV a [ob 12 [rf 50, iv 0, iv 0, rf 51, nl, nl, iv 0, nl, nl, nl, iv 0, iv 0, iv 0, iv 0, nl, nl, nl, iv 0, iv 0, iv 0, iv 0, iv 0, nl, nl, nl, iv 0, nl, iv 0, nl, nl, nl, nl, iv 0, iv 0, iv 0, nl, iv 0, iv 0, nl, nl, nl, nl], ia 200 zf, ia 192 zf]) _
  refine aw_tree (I0_ok X _) [(false, 49), (true, 5)] [24] rfl ?_
  dsimp only
  repeat' (first | refine And.intro ?_ ?_ | (refine aImp_e0 ?_; intro _) | (refine aImp_n0 ?_; intro _) | (refine aImp_i ?_; intro _))
  all_goals (try (first | omega | exact bI_01 _ | exact bI_lo _ | exact bI_hi _ | exact bI_hi' _ | exact trivial | exact Or.inl rfl | exact Or.inr rfl | (exfalso; omega)))
  show AW X (d + 2) 19 269565 111 24 [rf 49, jk] [] (CV a [ob 12 [rf 50, iv 0, iv 0, rf 51, rf 52, rf 53, iv 0, nl, nl, nl, iv 0, iv 0, iv 0, iv 0, nl, nl, nl, iv 0, iv 0, iv 0, iv 0, iv 0, nl, nl, nl, iv 0, nl, iv 0, nl, nl, nl, nl, iv 0, iv 0, iv 0, nl, iv 0, iv 0, nl, nl, nl, nl], ia 200 zf, ia 192 zf, za 32 zf, za 1024 zf]) _
  refine aw_tree (I0_ok X _) [(false, 49), (true, 7)] [35] rfl ?_
  dsimp only
  repeat' (first | refine And.intro ?_ ?_ | (refine aImp_e0 ?_; intro _) | (refine aImp_n0 ?_; intro _) | (refine aImp_i ?_; intro _))
  all_goals (try (first | omega | exact bI_01 _ | exact bI_lo _ | exact bI_hi _ | exact bI_hi' _ | exact trivial | exact Or.inl rfl | exact Or.inr rfl | (exfalso; omega)))
  show AW X (d + 2) 17 269553 111 35 [rf 49, jk] [] (CV a [ob 12 [rf 50, iv 0, iv 0, rf 51, rf 52, rf 53, iv 0, rf 54, rf 55, nl, iv 0, iv 0, iv 0, iv 0, nl, nl, nl, iv 0, iv 0, iv 0, iv 0, iv 0, nl, nl, nl, iv 0, nl, iv 0, nl, nl, nl, nl, iv 0, iv 0, iv 0, nl, iv 0, iv 0, nl, nl, nl, nl], ia 200 zf, ia 192 zf, za 32 zf, za 1024 zf, ia 6 zf, ia 6 zf]) _
  refine aw_tree (I0_ok X _) [(false, 49), (true, 9)] [55] rfl ?_
  dsimp only
  repeat' (first | refine And.intro ?_ ?_ | (refine aImp_e0 ?_; intro _) | (refine aImp_n0 ?_; intro _) | (refine aImp_i ?_; intro _))
  all_goals (try (first | omega | exact bI_01 _ | exact bI_lo _ | exact bI_hi _ | exact bI_hi' _ | exact trivial | exact Or.inl rfl | exact Or.inr rfl | (exfalso; omega)))
  show AW X (d + 2) 15 269539 111 55 [rf 49, jk] [] (CV a [ob 12 [rf 50, iv 0, iv 0, rf 51, rf 52, rf 53, iv 0, rf 54, rf 55, rf 56, iv 60, iv 1, iv 5, iv 0, rf 57, nl, nl, iv 0, iv 0, iv 0, iv 0, iv 0, nl, nl, nl, iv 0, nl, iv 0, nl, nl, nl, nl, iv 0, iv 0, iv 0, nl, iv 0, iv 0, nl, nl, nl, nl], ia 200 zf, ia 192 zf, za 32 zf, za 1024 zf, ia 6 zf, ia 6 zf, ia 6 zf, ia 8 zf]) _
  refine aw_tree (I0_ok X _) [(false, 49), (true, 11)] [63] rfl ?_
  dsimp only
  repeat' (first | refine And.intro ?_ ?_ | (refine aImp_e0 ?_; intro _) | (refine aImp_n0 ?_; intro _) | (refine aImp_i ?_; intro _))
  all_goals (try (first | omega | exact bI_01 _ | exact bI_lo _ | exact bI_hi _ | exact bI_hi' _ | exact trivial | exact Or.inl rfl | exact Or.inr rfl | (exfalso; omega)))
  show AW X (d + 2) 13 268891 111 63 [rf 49, jk] [] (CV a [ob 12 [rf 50, iv 0, iv 0, rf 51, rf 52, rf 53, iv 0, rf 54, rf 55, rf 56, iv 60, iv 1, iv 5, iv 0, rf 57, rf 58, rf 59, iv 0, iv 0, iv 0, iv 0, iv 0, nl, nl, nl, iv 0, nl, iv 0, nl, nl, nl, nl, iv 0, iv 0, iv 0, nl, iv 0, iv 0, nl, nl, nl, nl], ia 200 zf, ia 192 zf, za 32 zf, za 1024 zf, ia 6 zf, ia 6 zf, ia 6 zf, ia 8 zf, ia 8 zf, ia 640 zf]) _
  refine aw_tree (I0_ok X _) [(false, 49), (true, 13)] [86] rfl ?_
  dsimp only
  repeat' (first | refine And.intro ?_ ?_ | (refine aImp_e0 ?_; intro _) | (refine aImp_n0 ?_; intro _) | (refine aImp_i ?_; intro _))
  all_goals (try (first | omega | exact bI_01 _ | exact bI_lo _ | exact bI_hi _ | exact bI_hi' _ | exact trivial | exact Or.inl rfl | exact Or.inr rfl | (exfalso; omega)))
  show AW X (d + 2) 11 268874 111 86 [rf 49, jk] [] (CV a [ob 12 [rf 50, iv 0, iv 0, rf 51, rf 52, rf 53, iv 0, rf 54, rf 55, rf 56, iv 60, iv 1, iv 5, iv 0, rf 57, rf 58, rf 59, iv 0, iv (-1), iv 0, iv 0, iv 0, rf 60, rf 61, nl, iv 0, nl, iv 0, nl, nl, nl, nl, iv 0, iv 0, iv 0, nl, iv 0, iv 0, nl, nl, nl, nl], ia 200 zf, ia 192 zf, za 32 zf, za 1024 zf, ia 6 zf, ia 6 zf, ia 6 zf, ia 8 zf, ia 8 zf, ia 640 zf, ia 8 zf, ia 9 zf]) _
  refine aw_tree (I0_ok X _) [(false, 49), (true, 15)] [97] rfl ?_
  dsimp only
  repeat' (first | refine And.intro ?_ ?_ | (refine aImp_e0 ?_; intro _) | (refine aImp_n0 ?_; intro _) | (refine aImp_i ?_; intro _))
  all_goals (try (first | omega | exact bI_01 _ | exact bI_lo _ | exact bI_hi _ | exact bI_hi' _ | exact trivial | exact Or.inl rfl | exact Or.inr rfl | (exfalso; omega)))
  show AW X (d + 2) 9 268122 111 97 [rf 49, jk] [] (CV a [ob 12 [rf 50, iv 0, iv 0, rf 51, rf 52, rf 53, iv 0, rf 54, rf 55, rf 56, iv 60, iv 1, iv 5, iv 0, rf 57, rf 58, rf 59, iv 0, iv (-1), iv 0, iv 0, iv 0, rf 60, rf 61, rf 62, iv 0, rf 63, iv 0, nl, nl, nl, nl, iv 0, iv 0, iv 0, nl, iv 0, iv 0, nl, nl, nl, nl], ia 200 zf, ia 192 zf, za 32 zf, za 1024 zf, ia 6 zf, ia 6 zf, ia 6 zf, ia 8 zf, ia 8 zf, ia 640 zf, ia 8 zf, ia 9 zf, ia 720 zf, ia 32 zf]) _
  refine aw_tree (I0_ok X _) [(false, 49), (true, 17)] [108] rfl ?_
  dsimp only
  repeat' (first | refine And.intro ?_ ?_ | (refine aImp_e0 ?_; intro _) | (refine aImp_n0 ?_; intro _) | (refine aImp_i ?_; intro _))
  all_goals (try (first | omega | exact bI_01 _ | exact bI_lo _ | exact bI_hi _ | exact bI_hi' _ | exact trivial | exact Or.inl rfl | exact Or.inr rfl | (exfalso; omega)))
  show AW X (d + 2) 7 268058 111 108 [rf 49, jk] [] (CV a [ob 12 [rf 50, iv 0, iv 0, rf 51, rf 52, rf 53, iv 0, rf 54, rf 55, rf 56, iv 60, iv 1, iv 5, iv 0, rf 57, rf 58, rf 59, iv 0, iv (-1), iv 0, iv 0, iv 0, rf 60, rf 61, rf 62, iv 0, rf 63, iv 0, rf 64, rf 65, nl, nl, iv 0, iv 0, iv 0, nl, iv 0, iv 0, nl, nl, nl, nl], ia 200 zf, ia 192 zf, za 32 zf, za 1024 zf, ia 6 zf, ia 6 zf, ia 6 zf, ia 8 zf, ia 8 zf, ia 640 zf, ia 8 zf, ia 9 zf, ia 720 zf, ia 32 zf, ia 32 zf, ia 32 zf]) _
  refine aw_tree (I0_ok X _) [(false, 49), (true, 19)] [116] rfl ?_
  dsimp only
  repeat' (first | refine And.intro ?_ ?_ | (refine aImp_e0 ?_; intro _) | (refine aImp_n0 ?_; intro _) | (refine aImp_i ?_; intro _))
  all_goals (try (first | omega | exact bI_01 _ | exact bI_lo _ | exact bI_hi _ | exact bI_hi' _ | exact trivial | exact Or.inl rfl | exact Or.inr rfl | (exfalso; omega)))
  show AW X (d + 2) 5 267994 111 116 [rf 49, jk] [] (CV a [ob 12 [rf 50, iv 0, iv 0, rf 51, rf 52, rf 53, iv 0, rf 54, rf 55, rf 56, iv 60, iv 1, iv 5, iv 0, rf 57, rf 58, rf 59, iv 0, iv (-1), iv 0, iv 0, iv 0, rf 60, rf 61, rf 62, iv 0, rf 63, iv 0, rf 64, rf 65, rf 66, rf 67, iv 0, iv 0, iv 0, nl, iv 0, iv 0, nl, nl, nl, nl], ia 200 zf, ia 192 zf, za 32 zf, za 1024 zf, ia 6 zf, ia 6 zf, ia 6 zf, ia 8 zf, ia 8 zf, ia 640 zf, ia 8 zf, ia 9 zf, ia 720 zf, ia 32 zf, ia 32 zf, ia 32 zf, ia 32 zf, ia 32 zf]) _
  refine aw_tree (I0_ok X _) [(false, 49), (true, 21)] [139] rfl ?_
  dsimp only
  repeat' (first | refine And.intro ?_ ?_ | (refine aImp_e0 ?_; intro _) | (refine aImp_n0 ?_; intro _) | (refine aImp_i ?_; intro _))
  all_goals (try (first | omega | exact bI_01 _ | exact bI_lo _ | exact bI_hi _ | exact bI_hi' _ | exact trivial | exact Or.inl rfl | exact Or.inr rfl | (exfalso; omega)))
  show AW X (d + 2) 3 68 111 139 [rf 49, jk] [] (CV a [ob 12 [rf 50, iv 0, iv 0, rf 51, rf 52, rf 53, iv 0, rf 54, rf 55, rf 56, iv 60, iv 1, iv 5, iv 0, rf 57, rf 58, rf 59, iv 0, iv (-1), iv 0, iv 0, iv 0, rf 60, rf 61, rf 62, iv 0, rf 63, iv 0, rf 64, rf 65, rf 66, rf 67, iv 0, iv 0, iv 0, rf 68, iv 0, iv 0, rf 69, nl, nl, nl], ia 200 zf, ia 192 zf, za 32 zf, za 1024 zf, ia 6 zf, ia 6 zf, ia 6 zf, ia 8 zf, ia 8 zf, ia 640 zf, ia 8 zf, ia 9 zf, ia 720 zf, ia 32 zf, ia 32 zf, ia 32 zf, ia 32 zf, ia 32 zf, ia 267894 zf, ia 32 zf]) _
  refine aw_tree (I0_ok X _) [(false, 49), (true, 23)] [147] rfl ?_
  dsimp only
  repeat' (first | refine And.intro ?_ ?_ | (refine aImp_e0 ?_; intro _) | (refine aImp_n0 ?_; intro _) | (refine aImp_i ?_; intro _))
  all_goals (try (first | omega | exact bI_01 _ | exact bI_lo _ | exact bI_hi _ | exact bI_hi' _ | exact trivial | exact Or.inl rfl | exact Or.inr rfl | (exfalso; omega)))
  show AW X (d + 2) 1 4 111 147 [rf 49, jk] [] (CV a [ob 12 [rf 50, iv 0, iv 0, rf 51, rf 52, rf 53, iv 0, rf 54, rf 55, rf 56, iv 60, iv 1, iv 5, iv 0, rf 57, rf 58, rf 59, iv 0, iv (-1), iv 0, iv 0, iv 0, rf 60, rf 61, rf 62, iv 0, rf 63, iv 0, rf 64, rf 65, rf 66, rf 67, iv 0, iv 0, iv 0, rf 68, iv 0, iv 0, rf 69, rf 70, rf 71, nl], ia 200 zf, ia 192 zf, za 32 zf, za 1024 zf, ia 6 zf, ia 6 zf, ia 6 zf, ia 8 zf, ia 8 zf, ia 640 zf, ia 8 zf, ia 9 zf, ia 720 zf, ia 32 zf, ia 32 zf, ia 32 zf, ia 32 zf, ia 32 zf, ia 267894 zf, ia 32 zf, ia 32 zf, ia 32 zf]) _
  refine aw_tree (I0_ok X _) [(false, 49), (true, 24)] [151] rfl ?_
  dsimp only
  repeat' (first | refine And.intro ?_ ?_ | (refine aImp_e0 ?_; intro _) | (refine aImp_n0 ?_; intro _) | (refine aImp_i ?_; intro _))
  all_goals (try (first | omega | exact bI_01 _ | exact bI_lo _ | exact bI_hi _ | exact bI_hi' _ | exact trivial | exact Or.inl rfl | exact Or.inr rfl | (exfalso; omega)))
  show AW X (d + 2) 0 0 111 151 [rf 49, jk] [] (CV a [ob 12 [rf 50, iv 0, iv 0, rf 51, rf 52, rf 53, iv 0, rf 54, rf 55, rf 56, iv 60, iv 1, iv 5, iv 0, rf 57, rf 58, rf 59, iv 0, iv (-1), iv 0, iv 0, iv 0, rf 60, rf 61, rf 62, iv 0, rf 63, iv 0, rf 64, rf 65, rf 66, rf 67, iv 0, iv 0, iv 0, rf 68, iv 0, iv 0, rf 69, rf 70, rf 71, rf 72], ia 200 zf, ia 192 zf, za 32 zf, za 1024 zf, ia 6 zf, ia 6 zf, ia 6 zf, ia 8 zf, ia 8 zf, ia 640 zf, ia 8 zf, ia 9 zf, ia 720 zf, ia 32 zf, ia 32 zf, ia 32 zf, ia 32 zf, ia 32 zf, ia 267894 zf, ia 32 zf, ia 32 zf, ia 32 zf, ia 4 zf]) _
  refine aw_tree (I0_ok X _) [(false, 49), (true, 24)] [153] rfl ?_
  exact m_ini_loop d a ⟨rfl, rfl⟩ 8 0 rfl

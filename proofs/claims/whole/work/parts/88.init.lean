/-! ===== the constructors ===== -/
set_option maxRecDepth 100000 in
theorem i_Tape1 {X : AX} (d : Nat) (a0 : AC) : AF X (d + 4) 1 200 74 [rf 1] [a0, ob 10 (aDefs 10)] none [a0, ob 10 [rf 2, iv 0], ya 200 zf] := by
  refine aw_tree (I0_ok X _) [(false, 1), (true, 1)] [] rfl ?_
  refine aw_oi rfl rfl ?_
  refine aw_tree (I0_ok X _) [(false, 1), (true, 2)] [] rfl ?_
  dsimp only
  repeat' (first | refine And.intro ?_ ?_ | (refine aImp_e0 ?_; intro _) | (refine aImp_n0 ?_; intro _) | (refine aImp_i ?_; intro _))
  all_goals (try (first | omega | exact bI_01 _ | exact bI_lo _ | exact bI_hi _ | exact bI_hi' _ | exact trivial | exact Or.inl rfl | exact Or.inr rfl | (exfalso; omega)))
  all_goals rfl
set_option maxRecDepth 100000 in
theorem i_Guests3 {X : AX} (d : Nat) (a0 a1 a2 : AC) : AF X (d + 4) 8 256 8 [rf 3] [a0, a1, a2, ob 2 (aDefs 2)] none [a0, a1, a2, ob 2 [rf 4, rf 5, rf 6, rf 7, rf 8, rf 9, rf 10, rf 11, iv 0, iv 0, iv 0], ia 32 zf, ia 32 zf, ia 32 zf, ia 32 zf, ia 32 zf, ia 32 zf, za 32 zf, ia 32 zf] := by
  refine aw_tree (I0_ok X _) [(false, 3), (true, 1)] [] rfl ?_
  refine aw_oi rfl rfl ?_
  refine aw_tree (I0_ok X _) [(false, 3), (true, 3)] [10] rfl ?_
  dsimp only
  repeat' (first | refine And.intro ?_ ?_ | (refine aImp_e0 ?_; intro _) | (refine aImp_n0 ?_; intro _) | (refine aImp_i ?_; intro _))
  all_goals (try (first | omega | exact bI_01 _ | exact bI_lo _ | exact bI_hi _ | exact bI_hi' _ | exact trivial | exact Or.inl rfl | exact Or.inr rfl | (exfalso; omega)))
  show AW X (d + 4) 6 192 8 10 [rf 3] [] [a0, a1, a2, ob 2 [rf 4, rf 5, nl, nl, nl, nl, nl, nl, iv 0, iv 0, iv 0], ia 32 zf, ia 32 zf] _
  refine aw_tree (I0_ok X _) [(false, 3), (true, 5)] [18] rfl ?_
  dsimp only
  repeat' (first | refine And.intro ?_ ?_ | (refine aImp_e0 ?_; intro _) | (refine aImp_n0 ?_; intro _) | (refine aImp_i ?_; intro _))
  all_goals (try (first | omega | exact bI_01 _ | exact bI_lo _ | exact bI_hi _ | exact bI_hi' _ | exact trivial | exact Or.inl rfl | exact Or.inr rfl | (exfalso; omega)))
  show AW X (d + 4) 4 128 8 18 [rf 3] [] [a0, a1, a2, ob 2 [rf 4, rf 5, rf 6, rf 7, nl, nl, nl, nl, iv 0, iv 0, iv 0], ia 32 zf, ia 32 zf, ia 32 zf, ia 32 zf] _
  refine aw_tree (I0_ok X _) [(false, 3), (true, 7)] [26] rfl ?_
  dsimp only
  repeat' (first | refine And.intro ?_ ?_ | (refine aImp_e0 ?_; intro _) | (refine aImp_n0 ?_; intro _) | (refine aImp_i ?_; intro _))
  all_goals (try (first | omega | exact bI_01 _ | exact bI_lo _ | exact bI_hi _ | exact bI_hi' _ | exact trivial | exact Or.inl rfl | exact Or.inr rfl | (exfalso; omega)))
  show AW X (d + 4) 2 64 8 26 [rf 3] [] [a0, a1, a2, ob 2 [rf 4, rf 5, rf 6, rf 7, rf 8, rf 9, nl, nl, iv 0, iv 0, iv 0], ia 32 zf, ia 32 zf, ia 32 zf, ia 32 zf, ia 32 zf, ia 32 zf] _
  refine aw_tree (I0_ok X _) [(false, 3), (true, 9)] [] rfl ?_
  dsimp only
  repeat' (first | refine And.intro ?_ ?_ | (refine aImp_e0 ?_; intro _) | (refine aImp_n0 ?_; intro _) | (refine aImp_i ?_; intro _))
  all_goals (try (first | omega | exact bI_01 _ | exact bI_lo _ | exact bI_hi _ | exact bI_hi' _ | exact trivial | exact Or.inl rfl | exact Or.inr rfl | (exfalso; omega)))
  all_goals rfl
set_option maxRecDepth 100000 in
theorem i_Hall12 {X : AX} (d : Nat) (a0 a1 a2 a3 a4 a5 a6 a7 a8 a9 a10 a11 : AC) : AF X (d + 4) 1 6 15 [rf 12] [a0, a1, a2, a3, a4, a5, a6, a7, a8, a9, a10, a11, ob 3 (aDefs 3)] none [a0, a1, a2, a3, a4, a5, a6, a7, a8, a9, a10, a11, ob 3 [rf 13, iv 0, iv 60, iv 1, iv 5], .inr (.inl (6, fun _ => none))] := by
  refine aw_tree (I0_ok X _) [(false, 12), (true, 1)] [] rfl ?_
  refine aw_oi rfl rfl ?_
  refine aw_tree (I0_ok X _) [(false, 12), (true, 2)] [] rfl ?_
  dsimp only
  repeat' (first | refine And.intro ?_ ?_ | (refine aImp_e0 ?_; intro _) | (refine aImp_n0 ?_; intro _) | (refine aImp_i ?_; intro _))
  all_goals (try (first | omega | exact bI_01 _ | exact bI_lo _ | exact bI_hi _ | exact bI_hi' _ | exact trivial | exact Or.inl rfl | exact Or.inr rfl | (exfalso; omega)))
  all_goals rfl
set_option maxRecDepth 100000 in
theorem i_Order14 {X : AX} (d : Nat) (a0 a1 a2 a3 a4 a5 a6 a7 a8 a9 a10 a11 a12 a13 : AC) : AF X (d + 4) 1 32 18 [rf 14] [a0, a1, a2, a3, a4, a5, a6, a7, a8, a9, a10, a11, a12, a13, ob 4 (aDefs 4)] none [a0, a1, a2, a3, a4, a5, a6, a7, a8, a9, a10, a11, a12, a13, ob 4 [rf 15, iv 0], ia 32 zf] := by
  refine aw_tree (I0_ok X _) [(false, 14), (true, 1)] [] rfl ?_
  refine aw_oi rfl rfl ?_
  refine aw_tree (I0_ok X _) [(false, 14), (true, 2)] [] rfl ?_
  dsimp only
  repeat' (first | refine And.intro ?_ ?_ | (refine aImp_e0 ?_; intro _) | (refine aImp_n0 ?_; intro _) | (refine aImp_i ?_; intro _))
  all_goals (try (first | omega | exact bI_01 _ | exact bI_lo _ | exact bI_hi _ | exact bI_hi' _ | exact trivial | exact Or.inl rfl | exact Or.inr rfl | (exfalso; omega)))
  all_goals rfl
set_option maxRecDepth 100000 in
theorem i_Reader16 {X : AX} (d : Nat) (a0 a1 a2 a3 a4 a5 a6 a7 a8 a9 a10 a11 a12 a13 a14 a15 : AC) : AF X (d + 4) 0 0 46 [rf 16] [a0, a1, a2, a3, a4, a5, a6, a7, a8, a9, a10, a11, a12, a13, a14, a15, ob 7 (aDefs 7)] none [a0, a1, a2, a3, a4, a5, a6, a7, a8, a9, a10, a11, a12, a13, a14, a15, ob 7 [iv 0, iv (-1), iv 0, iv 0, iv 0, iv 0]] := by
  refine aw_tree (I0_ok X _) [(false, 16), (true, 1)] [] rfl ?_
  refine aw_oi rfl rfl ?_
  refine aw_tree (I0_ok X _) [(false, 16), (true, 1)] [] rfl ?_
  exact ⟨rfl, rfl⟩
set_option maxRecDepth 100000 in
theorem i_Planner17 {X : AX} (d : Nat) (a0 a1 a2 a3 a4 a5 a6 a7 a8 a9 a10 a11 a12 a13 a14 a15 a16 : AC) : AF X (d + 4) 8 257 23 [rf 17] [a0, a1, a2, a3, a4, a5, a6, a7, a8, a9, a10, a11, a12, a13, a14, a15, a16, ob 5 (aDefs 5)] none [a0, a1, a2, a3, a4, a5, a6, a7, a8, a9, a10, a11, a12, a13, a14, a15, a16, ob 5 [rf 18, rf 19, rf 20, rf 21, rf 22, rf 23, rf 24, rf 25, iv 0, iv 0, iv 0, iv 0, iv 0, iv 0], ia 32 zf, ia 32 zf, ia 32 zf, ia 32 zf, ia 32 zf, ia 32 zf, ia 32 zf, ia 33 zf] := by
  refine aw_tree (I0_ok X _) [(false, 17), (true, 1)] [] rfl ?_
  refine aw_oi rfl rfl ?_
  refine aw_tree (I0_ok X _) [(false, 17), (true, 3)] [10] rfl ?_
  dsimp only
  repeat' (first | refine And.intro ?_ ?_ | (refine aImp_e0 ?_; intro _) | (refine aImp_n0 ?_; intro _) | (refine aImp_i ?_; intro _))
  all_goals (try (first | omega | exact bI_01 _ | exact bI_lo _ | exact bI_hi _ | exact bI_hi' _ | exact trivial | exact Or.inl rfl | exact Or.inr rfl | (exfalso; omega)))
  show AW X (d + 4) 6 193 23 10 [rf 17] [] [a0, a1, a2, a3, a4, a5, a6, a7, a8, a9, a10, a11, a12, a13, a14, a15, a16, ob 5 [rf 18, rf 19, nl, nl, nl, nl, nl, nl, iv 0, iv 0, iv 0, iv 0, iv 0, iv 0], ia 32 zf, ia 32 zf] _
  refine aw_tree (I0_ok X _) [(false, 17), (true, 5)] [18] rfl ?_
  dsimp only
  repeat' (first | refine And.intro ?_ ?_ | (refine aImp_e0 ?_; intro _) | (refine aImp_n0 ?_; intro _) | (refine aImp_i ?_; intro _))
  all_goals (try (first | omega | exact bI_01 _ | exact bI_lo _ | exact bI_hi _ | exact bI_hi' _ | exact trivial | exact Or.inl rfl | exact Or.inr rfl | (exfalso; omega)))
  show AW X (d + 4) 4 129 23 18 [rf 17] [] [a0, a1, a2, a3, a4, a5, a6, a7, a8, a9, a10, a11, a12, a13, a14, a15, a16, ob 5 [rf 18, rf 19, rf 20, rf 21, nl, nl, nl, nl, iv 0, iv 0, iv 0, iv 0, iv 0, iv 0], ia 32 zf, ia 32 zf, ia 32 zf, ia 32 zf] _
  refine aw_tree (I0_ok X _) [(false, 17), (true, 7)] [26] rfl ?_
  dsimp only
  repeat' (first | refine And.intro ?_ ?_ | (refine aImp_e0 ?_; intro _) | (refine aImp_n0 ?_; intro _) | (refine aImp_i ?_; intro _))
  all_goals (try (first | omega | exact bI_01 _ | exact bI_lo _ | exact bI_hi _ | exact bI_hi' _ | exact trivial | exact Or.inl rfl | exact Or.inr rfl | (exfalso; omega)))
  show AW X (d + 4) 2 65 23 26 [rf 17] [] [a0, a1, a2, a3, a4, a5, a6, a7, a8, a9, a10, a11, a12, a13, a14, a15, a16, ob 5 [rf 18, rf 19, rf 20, rf 21, rf 22, rf 23, nl, nl, iv 0, iv 0, iv 0, iv 0, iv 0, iv 0], ia 32 zf, ia 32 zf, ia 32 zf, ia 32 zf, ia 32 zf, ia 32 zf] _
  refine aw_tree (I0_ok X _) [(false, 17), (true, 9)] [] rfl ?_
  dsimp only
  repeat' (first | refine And.intro ?_ ?_ | (refine aImp_e0 ?_; intro _) | (refine aImp_n0 ?_; intro _) | (refine aImp_i ?_; intro _))
  all_goals (try (first | omega | exact bI_01 _ | exact bI_lo _ | exact bI_hi _ | exact bI_hi' _ | exact trivial | exact Or.inl rfl | exact Or.inr rfl | (exfalso; omega)))
  all_goals rfl
set_option maxRecDepth 100000 in
theorem i_Carriages26 {X : AX} (d : Nat) (a0 a1 a2 a3 a4 a5 a6 a7 a8 a9 a10 a11 a12 a13 a14 a15 a16 a17 a18 a19 a20 a21 a22 a23 a24 a25 : AC) : AF X (d + 4) 4 100 3 [rf 26] [a0, a1, a2, a3, a4, a5, a6, a7, a8, a9, a10, a11, a12, a13, a14, a15, a16, a17, a18, a19, a20, a21, a22, a23, a24, a25, ob 1 (aDefs 1)] none [a0, a1, a2, a3, a4, a5, a6, a7, a8, a9, a10, a11, a12, a13, a14, a15, a16, a17, a18, a19, a20, a21, a22, a23, a24, a25, ob 1 [rf 27, rf 28, rf 29, rf 30], ia 32 (fil zf (-1) 32), ia 32 (fil zf (-1) 32), ia 32 (fil zf (-1) 32), ia 4 (fil zf (0) 4)] := by
  refine aw_tree (I0_ok X _) [(false, 26), (true, 1)] [] rfl ?_
  refine aw_oi rfl rfl ?_
  refine aw_tree (I0_ok X _) [(false, 26), (true, 5)] [] rfl ?_
  dsimp only
  repeat' (first | refine And.intro ?_ ?_ | (refine aImp_e0 ?_; intro _) | (refine aImp_n0 ?_; intro _) | (refine aImp_i ?_; intro _))
  all_goals (try (first | omega | exact bI_01 _ | exact bI_lo _ | exact bI_hi _ | exact bI_hi' _ | exact trivial | exact Or.inl rfl | exact Or.inr rfl | (exfalso; omega)))
  refine aw_ck0 ?_ rfl
  refine aw_tree (I0_ok X _) [(false, 26), (true, 5)] [] rfl ?_
  refine aw_cf0 (c_fill _ 27 32 (-1) zf _ (by omega) rfl) rfl ?_
  refine aw_tree (I0_ok X _) [(false, 26), (true, 5)] [] rfl ?_
  refine aw_cf0 (c_fill _ 28 32 (-1) zf _ (by omega) rfl) rfl ?_
  refine aw_tree (I0_ok X _) [(false, 26), (true, 5)] [] rfl ?_
  refine aw_cf0 (c_fill _ 29 32 (-1) zf _ (by omega) rfl) rfl ?_
  refine aw_tree (I0_ok X _) [(false, 26), (true, 5)] [] rfl ?_
  refine aw_cf0 (c_fill _ 30 4 (0) zf _ (by omega) rfl) rfl ?_
  refine aw_tree (I0_ok X _) [(false, 26), (true, 5)] [] rfl ?_
  refine aw_tree (I0_ok X _) [(false, 26), (true, 5)] [] rfl ?_
  exact ⟨rfl, rfl⟩
set_option maxRecDepth 100000 in
theorem i_Book31 {X : AX} (d : Nat) (a0 a1 a2 a3 a4 a5 a6 a7 a8 a9 a10 a11 a12 a13 a14 a15 a16 a17 a18 a19 a20 a21 a22 a23 a24 a25 a26 a27 a28 a29 a30 : AC) : AF X (d + 4) 4 66 39 [rf 31] [a0, a1, a2, a3, a4, a5, a6, a7, a8, a9, a10, a11, a12, a13, a14, a15, a16, a17, a18, a19, a20, a21, a22, a23, a24, a25, a26, a27, a28, a29, a30, ob 6 (aDefs 6)] none [a0, a1, a2, a3, a4, a5, a6, a7, a8, a9, a10, a11, a12, a13, a14, a15, a16, a17, a18, a19, a20, a21, a22, a23, a24, a25, a26, a27, a28, a29, a30, ob 6 [rf 32, rf 33, rf 34, rf 35, iv 0, iv 0], ia 8 (fil zf (-1) 8), ia 8 zf, ia 25 zf, za 25 zf] := by
  refine aw_tree (I0_ok X _) [(false, 31), (true, 1)] [] rfl ?_
  refine aw_oi rfl rfl ?_
  refine aw_tree (I0_ok X _) [(false, 31), (true, 5)] [] rfl ?_
  dsimp only
  repeat' (first | refine And.intro ?_ ?_ | (refine aImp_e0 ?_; intro _) | (refine aImp_n0 ?_; intro _) | (refine aImp_i ?_; intro _))
  all_goals (try (first | omega | exact bI_01 _ | exact bI_lo _ | exact bI_hi _ | exact bI_hi' _ | exact trivial | exact Or.inl rfl | exact Or.inr rfl | (exfalso; omega)))
  refine aw_ck0 ?_ rfl
  refine aw_tree (I0_ok X _) [(false, 31), (true, 5)] [] rfl ?_
  refine aw_cf0 (c_fill _ 32 8 (-1) zf _ (by omega) rfl) rfl ?_
  refine aw_tree (I0_ok X _) [(false, 31), (true, 5)] [] rfl ?_
  refine aw_tree (I0_ok X _) [(false, 31), (true, 5)] [] rfl ?_
  exact ⟨rfl, rfl⟩
set_option maxRecDepth 100000 in
theorem i_Book36 {X : AX} (d : Nat) (a0 a1 a2 a3 a4 a5 a6 a7 a8 a9 a10 a11 a12 a13 a14 a15 a16 a17 a18 a19 a20 a21 a22 a23 a24 a25 a26 a27 a28 a29 a30 a31 a32 a33 a34 a35 : AC) : AF X (d + 4) 4 66 39 [rf 36] [a0, a1, a2, a3, a4, a5, a6, a7, a8, a9, a10, a11, a12, a13, a14, a15, a16, a17, a18, a19, a20, a21, a22, a23, a24, a25, a26, a27, a28, a29, a30, a31, a32, a33, a34, a35, ob 6 (aDefs 6)] none [a0, a1, a2, a3, a4, a5, a6, a7, a8, a9, a10, a11, a12, a13, a14, a15, a16, a17, a18, a19, a20, a21, a22, a23, a24, a25, a26, a27, a28, a29, a30, a31, a32, a33, a34, a35, ob 6 [rf 37, rf 38, rf 39, rf 40, iv 0, iv 0], ia 8 (fil zf (-1) 8), ia 8 zf, ia 25 zf, za 25 zf] := by
  refine aw_tree (I0_ok X _) [(false, 36), (true, 1)] [] rfl ?_
  refine aw_oi rfl rfl ?_
  refine aw_tree (I0_ok X _) [(false, 36), (true, 5)] [] rfl ?_
  dsimp only
  repeat' (first | refine And.intro ?_ ?_ | (refine aImp_e0 ?_; intro _) | (refine aImp_n0 ?_; intro _) | (refine aImp_i ?_; intro _))
  all_goals (try (first | omega | exact bI_01 _ | exact bI_lo _ | exact bI_hi _ | exact bI_hi' _ | exact trivial | exact Or.inl rfl | exact Or.inr rfl | (exfalso; omega)))
  refine aw_ck0 ?_ rfl
  refine aw_tree (I0_ok X _) [(false, 36), (true, 5)] [] rfl ?_
  refine aw_cf0 (c_fill _ 37 8 (-1) zf _ (by omega) rfl) rfl ?_
  refine aw_tree (I0_ok X _) [(false, 36), (true, 5)] [] rfl ?_
  refine aw_tree (I0_ok X _) [(false, 36), (true, 5)] [] rfl ?_
  exact ⟨rfl, rfl⟩
set_option maxRecDepth 100000 in
theorem i_Seating41 {X : AX} (d : Nat) (a0 a1 a2 a3 a4 a5 a6 a7 a8 a9 a10 a11 a12 a13 a14 a15 a16 a17 a18 a19 a20 a21 a22 a23 a24 a25 a26 a27 a28 a29 a30 a31 a32 a33 a34 a35 a36 a37 a38 a39 a40 : AC) : AF X (d + 4) 3 96 58 [rf 41] [a0, a1, a2, a3, a4, a5, a6, a7, a8, a9, a10, a11, a12, a13, a14, a15, a16, a17, a18, a19, a20, a21, a22, a23, a24, a25, a26, a27, a28, a29, a30, a31, a32, a33, a34, a35, a36, a37, a38, a39, a40, ob 8 (aDefs 8)] none [a0, a1, a2, a3, a4, a5, a6, a7, a8, a9, a10, a11, a12, a13, a14, a15, a16, a17, a18, a19, a20, a21, a22, a23, a24, a25, a26, a27, a28, a29, a30, a31, a32, a33, a34, a35, a36, a37, a38, a39, a40, ob 8 [rf 42, rf 43, rf 44, iv 0, iv 0, iv 0, iv 0], ia 32 (fil zf (-2) 32), ia 32 (fil zf (-1) 32), ia 32 zf] := by
  refine aw_tree (I0_ok X _) [(false, 41), (true, 1)] [] rfl ?_
  refine aw_oi rfl rfl ?_
  refine aw_tree (I0_ok X _) [(false, 41), (true, 4)] [] rfl ?_
  dsimp only
  repeat' (first | refine And.intro ?_ ?_ | (refine aImp_e0 ?_; intro _) | (refine aImp_n0 ?_; intro _) | (refine aImp_i ?_; intro _))
  all_goals (try (first | omega | exact bI_01 _ | exact bI_lo _ | exact bI_hi _ | exact bI_hi' _ | exact trivial | exact Or.inl rfl | exact Or.inr rfl | (exfalso; omega)))
  refine aw_ck0 ?_ rfl
  refine aw_tree (I0_ok X _) [(false, 41), (true, 4)] [] rfl ?_
  refine aw_cf0 (c_fill _ 42 32 (-2) zf _ (by omega) rfl) rfl ?_
  refine aw_tree (I0_ok X _) [(false, 41), (true, 4)] [] rfl ?_
  refine aw_cf0 (c_fill _ 43 32 (-1) zf _ (by omega) rfl) rfl ?_
  refine aw_tree (I0_ok X _) [(false, 41), (true, 4)] [] rfl ?_
  refine aw_tree (I0_ok X _) [(false, 41), (true, 4)] [] rfl ?_
  exact ⟨rfl, rfl⟩
set_option maxRecDepth 100000 in
theorem i_Seating45 {X : AX} (d : Nat) (a0 a1 a2 a3 a4 a5 a6 a7 a8 a9 a10 a11 a12 a13 a14 a15 a16 a17 a18 a19 a20 a21 a22 a23 a24 a25 a26 a27 a28 a29 a30 a31 a32 a33 a34 a35 a36 a37 a38 a39 a40 a41 a42 a43 a44 : AC) : AF X (d + 4) 3 96 58 [rf 45] [a0, a1, a2, a3, a4, a5, a6, a7, a8, a9, a10, a11, a12, a13, a14, a15, a16, a17, a18, a19, a20, a21, a22, a23, a24, a25, a26, a27, a28, a29, a30, a31, a32, a33, a34, a35, a36, a37, a38, a39, a40, a41, a42, a43, a44, ob 8 (aDefs 8)] none [a0, a1, a2, a3, a4, a5, a6, a7, a8, a9, a10, a11, a12, a13, a14, a15, a16, a17, a18, a19, a20, a21, a22, a23, a24, a25, a26, a27, a28, a29, a30, a31, a32, a33, a34, a35, a36, a37, a38, a39, a40, a41, a42, a43, a44, ob 8 [rf 46, rf 47, rf 48, iv 0, iv 0, iv 0, iv 0], ia 32 (fil zf (-2) 32), ia 32 (fil zf (-1) 32), ia 32 zf] := by
  refine aw_tree (I0_ok X _) [(false, 45), (true, 1)] [] rfl ?_
  refine aw_oi rfl rfl ?_
  refine aw_tree (I0_ok X _) [(false, 45), (true, 4)] [] rfl ?_
  dsimp only
  repeat' (first | refine And.intro ?_ ?_ | (refine aImp_e0 ?_; intro _) | (refine aImp_n0 ?_; intro _) | (refine aImp_i ?_; intro _))
  all_goals (try (first | omega | exact bI_01 _ | exact bI_lo _ | exact bI_hi _ | exact bI_hi' _ | exact trivial | exact Or.inl rfl | exact Or.inr rfl | (exfalso; omega)))
  refine aw_ck0 ?_ rfl
  refine aw_tree (I0_ok X _) [(false, 45), (true, 4)] [] rfl ?_
  refine aw_cf0 (c_fill _ 46 32 (-2) zf _ (by omega) rfl) rfl ?_
  refine aw_tree (I0_ok X _) [(false, 45), (true, 4)] [] rfl ?_
  refine aw_cf0 (c_fill _ 47 32 (-1) zf _ (by omega) rfl) rfl ?_
  refine aw_tree (I0_ok X _) [(false, 45), (true, 4)] [] rfl ?_
  refine aw_tree (I0_ok X _) [(false, 45), (true, 4)] [] rfl ?_
  exact ⟨rfl, rfl⟩
set_option maxRecDepth 100000 in
theorem c_init {X : AX} (d : Nat) : AF X (d + 5) 48 1245 77 [rf 0] [ob 11 (aDefs 11)] none (CV (CA 0 0 (zf, 0) (zf, zf, zf, zf, zf, zf, zf, zf, 0, 0, 0) (fun _ => none, 0, 60, 1, 5) (zf, 0) (0, -1, 0, 0, 0, 0) (zf, zf, zf, zf, zf, zf, zf, zf, 0, 0, 0, 0, 0, 0) ((fil zf (-1) 32), (fil zf (-1) 32), (fil zf (-1) 32), (fil zf (0) 4)) ((fil zf (-1) 8), zf, zf, zf, 0, 0) ((fil zf (-1) 8), zf, zf, zf, 0, 0) ((fil zf (-2) 32), (fil zf (-1) 32), zf, 0, 0, 0, 0) ((fil zf (-2) 32), (fil zf (-1) 32), zf, 0, 0, 0, 0)) []) := by
  refine aw_tree (I0_ok X _) [(true, 1)] [] rfl ?_
  refine aw_oi rfl rfl ?_
  refine aw_tree (I0_ok X _) [(true, 2)] [] rfl ?_
  refine ⟨⟨by omega, Nat.le_of_ble_eq_true rfl⟩, ?_⟩
  refine aw_cf (kc2 := 46) (ks2 := 1043) (i_Tape1 d (ob 11 [nl, nl, nl, nl, nl, nl, nl, nl, nl, nl, nl])) rfl rfl rfl ?_
  refine aw_tree (I0_ok X _) [(true, 4)] [] rfl ?_
  refine ⟨⟨by omega, Nat.le_of_ble_eq_true rfl⟩, ?_⟩
  refine aw_cf (kc2 := 37) (ks2 := 776) (i_Guests3 d (ob 11 [rf 1, nl, nl, nl, nl, nl, nl, nl, nl, nl, nl]) (ob 10 [rf 2, iv 0]) (ya 200 zf)) rfl rfl rfl ?_
  refine aw_tree (I0_ok X _) [(true, 13)] [] rfl ?_
  refine ⟨⟨by omega, Nat.le_of_ble_eq_true rfl⟩, ?_⟩
  refine aw_cf (kc2 := 35) (ks2 := 765) (i_Hall12 d (ob 11 [rf 1, rf 3, nl, nl, nl, nl, nl, nl, nl, nl, nl]) (ob 10 [rf 2, iv 0]) (ya 200 zf) (ob 2 [rf 4, rf 5, rf 6, rf 7, rf 8, rf 9, rf 10, rf 11, iv 0, iv 0, iv 0]) (ia 32 zf) (ia 32 zf) (ia 32 zf) (ia 32 zf) (ia 32 zf) (ia 32 zf) (za 32 zf) (ia 32 zf)) rfl rfl rfl ?_
  refine aw_tree (I0_ok X _) [(true, 15)] [] rfl ?_
  refine ⟨⟨by omega, Nat.le_of_ble_eq_true rfl⟩, ?_⟩
  refine aw_cf (kc2 := 33) (ks2 := 731) (i_Order14 d (ob 11 [rf 1, rf 3, rf 12, nl, nl, nl, nl, nl, nl, nl, nl]) (ob 10 [rf 2, iv 0]) (ya 200 zf) (ob 2 [rf 4, rf 5, rf 6, rf 7, rf 8, rf 9, rf 10, rf 11, iv 0, iv 0, iv 0]) (ia 32 zf) (ia 32 zf) (ia 32 zf) (ia 32 zf) (ia 32 zf) (ia 32 zf) (za 32 zf) (ia 32 zf) (ob 3 [rf 13, iv 0, iv 60, iv 1, iv 5]) (.inr (.inl (6, fun _ => none)))) rfl rfl rfl ?_
  refine aw_tree (I0_ok X _) [(true, 17)] [] rfl ?_
  refine ⟨⟨by omega, Nat.le_of_ble_eq_true rfl⟩, ?_⟩
  refine aw_cf (kc2 := 32) (ks2 := 725) (i_Reader16 d (ob 11 [rf 1, rf 3, rf 12, rf 14, nl, nl, nl, nl, nl, nl, nl]) (ob 10 [rf 2, iv 0]) (ya 200 zf) (ob 2 [rf 4, rf 5, rf 6, rf 7, rf 8, rf 9, rf 10, rf 11, iv 0, iv 0, iv 0]) (ia 32 zf) (ia 32 zf) (ia 32 zf) (ia 32 zf) (ia 32 zf) (ia 32 zf) (za 32 zf) (ia 32 zf) (ob 3 [rf 13, iv 0, iv 60, iv 1, iv 5]) (.inr (.inl (6, fun _ => none))) (ob 4 [rf 15, iv 0]) (ia 32 zf)) rfl rfl rfl ?_
  refine aw_tree (I0_ok X _) [(true, 18)] [] rfl ?_
  refine ⟨⟨by omega, Nat.le_of_ble_eq_true rfl⟩, ?_⟩
  refine aw_cf (kc2 := 23) (ks2 := 454) (i_Planner17 d (ob 11 [rf 1, rf 3, rf 12, rf 14, rf 16, nl, nl, nl, nl, nl, nl]) (ob 10 [rf 2, iv 0]) (ya 200 zf) (ob 2 [rf 4, rf 5, rf 6, rf 7, rf 8, rf 9, rf 10, rf 11, iv 0, iv 0, iv 0]) (ia 32 zf) (ia 32 zf) (ia 32 zf) (ia 32 zf) (ia 32 zf) (ia 32 zf) (za 32 zf) (ia 32 zf) (ob 3 [rf 13, iv 0, iv 60, iv 1, iv 5]) (.inr (.inl (6, fun _ => none))) (ob 4 [rf 15, iv 0]) (ia 32 zf) (ob 7 [iv 0, iv (-1), iv 0, iv 0, iv 0, iv 0])) rfl rfl rfl ?_
  refine aw_tree (I0_ok X _) [(true, 27)] [] rfl ?_
  refine ⟨⟨by omega, Nat.le_of_ble_eq_true rfl⟩, ?_⟩
  refine aw_cf (kc2 := 18) (ks2 := 350) (i_Carriages26 d (ob 11 [rf 1, rf 3, rf 12, rf 14, rf 16, rf 17, nl, nl, nl, nl, nl]) (ob 10 [rf 2, iv 0]) (ya 200 zf) (ob 2 [rf 4, rf 5, rf 6, rf 7, rf 8, rf 9, rf 10, rf 11, iv 0, iv 0, iv 0]) (ia 32 zf) (ia 32 zf) (ia 32 zf) (ia 32 zf) (ia 32 zf) (ia 32 zf) (za 32 zf) (ia 32 zf) (ob 3 [rf 13, iv 0, iv 60, iv 1, iv 5]) (.inr (.inl (6, fun _ => none))) (ob 4 [rf 15, iv 0]) (ia 32 zf) (ob 7 [iv 0, iv (-1), iv 0, iv 0, iv 0, iv 0]) (ob 5 [rf 18, rf 19, rf 20, rf 21, rf 22, rf 23, rf 24, rf 25, iv 0, iv 0, iv 0, iv 0, iv 0, iv 0]) (ia 32 zf) (ia 32 zf) (ia 32 zf) (ia 32 zf) (ia 32 zf) (ia 32 zf) (ia 32 zf) (ia 33 zf)) rfl rfl rfl ?_
  refine aw_tree (I0_ok X _) [(true, 32)] [] rfl ?_
  refine ⟨⟨by omega, Nat.le_of_ble_eq_true rfl⟩, ?_⟩
  refine aw_cf (kc2 := 13) (ks2 := 278) (i_Book31 d (ob 11 [rf 1, rf 3, rf 12, rf 14, rf 16, rf 17, rf 26, nl, nl, nl, nl]) (ob 10 [rf 2, iv 0]) (ya 200 zf) (ob 2 [rf 4, rf 5, rf 6, rf 7, rf 8, rf 9, rf 10, rf 11, iv 0, iv 0, iv 0]) (ia 32 zf) (ia 32 zf) (ia 32 zf) (ia 32 zf) (ia 32 zf) (ia 32 zf) (za 32 zf) (ia 32 zf) (ob 3 [rf 13, iv 0, iv 60, iv 1, iv 5]) (.inr (.inl (6, fun _ => none))) (ob 4 [rf 15, iv 0]) (ia 32 zf) (ob 7 [iv 0, iv (-1), iv 0, iv 0, iv 0, iv 0]) (ob 5 [rf 18, rf 19, rf 20, rf 21, rf 22, rf 23, rf 24, rf 25, iv 0, iv 0, iv 0, iv 0, iv 0, iv 0]) (ia 32 zf) (ia 32 zf) (ia 32 zf) (ia 32 zf) (ia 32 zf) (ia 32 zf) (ia 32 zf) (ia 33 zf) (ob 1 [rf 27, rf 28, rf 29, rf 30]) (ia 32 (fil zf (-1) 32)) (ia 32 (fil zf (-1) 32)) (ia 32 (fil zf (-1) 32)) (ia 4 (fil zf (0) 4))) rfl rfl rfl ?_
  refine aw_tree (I0_ok X _) [(true, 37)] [] rfl ?_
  refine ⟨⟨by omega, Nat.le_of_ble_eq_true rfl⟩, ?_⟩
  refine aw_cf (kc2 := 8) (ks2 := 206) (i_Book36 d (ob 11 [rf 1, rf 3, rf 12, rf 14, rf 16, rf 17, rf 26, rf 31, nl, nl, nl]) (ob 10 [rf 2, iv 0]) (ya 200 zf) (ob 2 [rf 4, rf 5, rf 6, rf 7, rf 8, rf 9, rf 10, rf 11, iv 0, iv 0, iv 0]) (ia 32 zf) (ia 32 zf) (ia 32 zf) (ia 32 zf) (ia 32 zf) (ia 32 zf) (za 32 zf) (ia 32 zf) (ob 3 [rf 13, iv 0, iv 60, iv 1, iv 5]) (.inr (.inl (6, fun _ => none))) (ob 4 [rf 15, iv 0]) (ia 32 zf) (ob 7 [iv 0, iv (-1), iv 0, iv 0, iv 0, iv 0]) (ob 5 [rf 18, rf 19, rf 20, rf 21, rf 22, rf 23, rf 24, rf 25, iv 0, iv 0, iv 0, iv 0, iv 0, iv 0]) (ia 32 zf) (ia 32 zf) (ia 32 zf) (ia 32 zf) (ia 32 zf) (ia 32 zf) (ia 32 zf) (ia 33 zf) (ob 1 [rf 27, rf 28, rf 29, rf 30]) (ia 32 (fil zf (-1) 32)) (ia 32 (fil zf (-1) 32)) (ia 32 (fil zf (-1) 32)) (ia 4 (fil zf (0) 4)) (ob 6 [rf 32, rf 33, rf 34, rf 35, iv 0, iv 0]) (ia 8 (fil zf (-1) 8)) (ia 8 zf) (ia 25 zf) (za 25 zf)) rfl rfl rfl ?_
  refine aw_tree (I0_ok X _) [(true, 42)] [] rfl ?_
  refine ⟨⟨by omega, Nat.le_of_ble_eq_true rfl⟩, ?_⟩
  refine aw_cf (kc2 := 4) (ks2 := 103) (i_Seating41 d (ob 11 [rf 1, rf 3, rf 12, rf 14, rf 16, rf 17, rf 26, rf 31, rf 36, nl, nl]) (ob 10 [rf 2, iv 0]) (ya 200 zf) (ob 2 [rf 4, rf 5, rf 6, rf 7, rf 8, rf 9, rf 10, rf 11, iv 0, iv 0, iv 0]) (ia 32 zf) (ia 32 zf) (ia 32 zf) (ia 32 zf) (ia 32 zf) (ia 32 zf) (za 32 zf) (ia 32 zf) (ob 3 [rf 13, iv 0, iv 60, iv 1, iv 5]) (.inr (.inl (6, fun _ => none))) (ob 4 [rf 15, iv 0]) (ia 32 zf) (ob 7 [iv 0, iv (-1), iv 0, iv 0, iv 0, iv 0]) (ob 5 [rf 18, rf 19, rf 20, rf 21, rf 22, rf 23, rf 24, rf 25, iv 0, iv 0, iv 0, iv 0, iv 0, iv 0]) (ia 32 zf) (ia 32 zf) (ia 32 zf) (ia 32 zf) (ia 32 zf) (ia 32 zf) (ia 32 zf) (ia 33 zf) (ob 1 [rf 27, rf 28, rf 29, rf 30]) (ia 32 (fil zf (-1) 32)) (ia 32 (fil zf (-1) 32)) (ia 32 (fil zf (-1) 32)) (ia 4 (fil zf (0) 4)) (ob 6 [rf 32, rf 33, rf 34, rf 35, iv 0, iv 0]) (ia 8 (fil zf (-1) 8)) (ia 8 zf) (ia 25 zf) (za 25 zf) (ob 6 [rf 37, rf 38, rf 39, rf 40, iv 0, iv 0]) (ia 8 (fil zf (-1) 8)) (ia 8 zf) (ia 25 zf) (za 25 zf)) rfl rfl rfl ?_
  refine aw_tree (I0_ok X _) [(true, 46)] [] rfl ?_
  refine ⟨⟨by omega, Nat.le_of_ble_eq_true rfl⟩, ?_⟩
  refine aw_cf (kc2 := 0) (ks2 := 0) (i_Seating45 d (ob 11 [rf 1, rf 3, rf 12, rf 14, rf 16, rf 17, rf 26, rf 31, rf 36, rf 41, nl]) (ob 10 [rf 2, iv 0]) (ya 200 zf) (ob 2 [rf 4, rf 5, rf 6, rf 7, rf 8, rf 9, rf 10, rf 11, iv 0, iv 0, iv 0]) (ia 32 zf) (ia 32 zf) (ia 32 zf) (ia 32 zf) (ia 32 zf) (ia 32 zf) (za 32 zf) (ia 32 zf) (ob 3 [rf 13, iv 0, iv 60, iv 1, iv 5]) (.inr (.inl (6, fun _ => none))) (ob 4 [rf 15, iv 0]) (ia 32 zf) (ob 7 [iv 0, iv (-1), iv 0, iv 0, iv 0, iv 0]) (ob 5 [rf 18, rf 19, rf 20, rf 21, rf 22, rf 23, rf 24, rf 25, iv 0, iv 0, iv 0, iv 0, iv 0, iv 0]) (ia 32 zf) (ia 32 zf) (ia 32 zf) (ia 32 zf) (ia 32 zf) (ia 32 zf) (ia 32 zf) (ia 33 zf) (ob 1 [rf 27, rf 28, rf 29, rf 30]) (ia 32 (fil zf (-1) 32)) (ia 32 (fil zf (-1) 32)) (ia 32 (fil zf (-1) 32)) (ia 4 (fil zf (0) 4)) (ob 6 [rf 32, rf 33, rf 34, rf 35, iv 0, iv 0]) (ia 8 (fil zf (-1) 8)) (ia 8 zf) (ia 25 zf) (za 25 zf) (ob 6 [rf 37, rf 38, rf 39, rf 40, iv 0, iv 0]) (ia 8 (fil zf (-1) 8)) (ia 8 zf) (ia 25 zf) (za 25 zf) (ob 8 [rf 42, rf 43, rf 44, iv 0, iv 0, iv 0, iv 0]) (ia 32 (fil zf (-2) 32)) (ia 32 (fil zf (-1) 32)) (ia 32 zf)) rfl rfl rfl ?_
  refine aw_tree (I0_ok X _) [(true, 49)] [] rfl ?_
  exact ⟨rfl, rfl⟩

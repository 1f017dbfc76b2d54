/-! ===== the class's row ===== -/
abbrev zf : FN := fun _ => 0
set_option maxRecDepth 100000 in
theorem c_binit0 {X : AX} (d : Nat) (sb ss : Nat) (T : TyT) (G : TyG) (L : TyL) (O : TyO) (R : TyR) (P : TyP) (C : TyC) (B D : TyB) (S N : TyS) (bm : AC24) (z w f ds : Int) (hw : 4 ≤ w ∧ w ≤ 40) :
    AF X (d + 2) 3 2698 1 [rf 73, iv z, iv w, iv f, iv ds] (CH sb ss T G L O R P C B D S N (MV bm (BH 73 [] ++ [ob 0 (aDefs 0)]))) none (CH sb ss T G L O R P C B D S N (MV bm (BH 73 [(z, w, f, ds, zf, zf, zf)]))) := by
  refine aw_tree (I0_ok X _) [(true, 49), (false, 24), (true, 1)] [] rfl ?_
  refine aw_oi rfl rfl ?_
  refine aw_tree (I0_ok X _) [(true, 49), (false, 24), (true, 4)] [] rfl ?_
  dsimp only
  repeat' (first | refine And.intro ?_ ?_ | (refine aImp_e0 ?_; intro _) | (refine aImp_n0 ?_; intro _) | (refine aImp_i ?_; intro _))
  all_goals (try (first | omega | exact bI_01 _ | exact bI_lo _ | exact bI_hi _ | exact bI_hi' _ | exact trivial | exact Or.inl rfl | exact Or.inr rfl | (exfalso; omega)))
  all_goals rfl
set_option maxRecDepth 100000 in
theorem c_hadd0 {X : AX} (d : Nat) (sb ss : Nat) (T : TyT) (G : TyG) (L : TyL) (O : TyO) (R : TyR) (P : TyP) (C : TyC) (B D : TyB) (S N : TyS) (bm : AC24) (w f dp : Int) (hL : L.2.1 = 0) (hb : hlB L) (hw : 4 ≤ w ∧ w ≤ 40) :
    AF X (d + 4) 4 2705 16 [rf 12, iv w, iv f, iv dp] (CH sb ss T G L O R P C B D S N (MV bm (BH 73 []))) none (CH sb ss T G (aUp L.1 L.2.1 (some 73), L.2.1 + 1, L.2.2.1, L.2.2.2.1, L.2.2.2.2) O R P C B D S N (MV bm (BH 73 [(L.2.1, w, f, dp, zf, zf, zf)]))) := by
  refine aw_tree (I0_ok X _) [(true, 49), (false, 24)] [] rfl ?_
  repeat' (first | refine And.intro ?_ ?_ | (refine aImp_e0 ?_; intro _) | (refine aImp_n0 ?_; intro _) | (refine aImp_i ?_; intro _))
  all_goals (try (first | omega | exact bI_01 _ | exact bI_lo _ | exact bI_hi _ | exact bI_hi' _ | exact trivial | exact Or.inl rfl | exact Or.inr rfl | (exfalso; omega)))
  refine aw_cf0 (c_benchAt_no _ sb ss T G L O R P C B D S N (MV bm (BH 73 [])) (L.2.1 - 1) (by unfold inR; omega) (by omega) (by omega)) rfl ?_
  refine aw_tree (I0_ok X _) [(true, 49), (false, 24), (true, 1)] [] rfl ?_
  dsimp only
  repeat' (first | refine And.intro ?_ ?_ | (refine aImp_e0 ?_; intro _) | (refine aImp_n0 ?_; intro _) | (refine aImp_i ?_; intro _))
  all_goals (try (first | omega | exact bI_01 _ | exact bI_lo _ | exact bI_hi _ | exact bI_hi' _ | exact trivial | exact Or.inl rfl | exact Or.inr rfl | (exfalso; omega)))
  · exact Nat.le_of_ble_eq_true rfl
  refine aw_cf (kc2 := 0) (ks2 := 0) (c_binit0 _ sb ss T G L O R P C B D S N bm  L.2.1 w f dp hw) rfl rfl rfl ?_
  refine aw_tree (I0_ok X _) [(true, 49), (false, 24), (true, 4)] [] rfl ?_
  dsimp only
  repeat' (first | refine And.intro ?_ ?_ | (refine aImp_e0 ?_; intro _) | (refine aImp_n0 ?_; intro _) | (refine aImp_i ?_; intro _))
  all_goals (try (first | omega | exact bI_01 _ | exact bI_lo _ | exact bI_hi _ | exact bI_hi' _ | exact trivial | exact Or.inl rfl | exact Or.inr rfl | (exfalso; omega)))
  all_goals rfl
set_option maxRecDepth 100000 in
theorem c_binit1 {X : AX} (d : Nat) (sb ss : Nat) (T : TyT) (G : TyG) (L : TyL) (O : TyO) (R : TyR) (P : TyP) (C : TyC) (B D : TyB) (S N : TyS) (bm : AC24) (b0 : TyBn) (z w f ds : Int) (hw : 4 ≤ w ∧ w ≤ 40) :
    AF X (d + 2) 3 2698 1 [rf 77, iv z, iv w, iv f, iv ds] (CH sb ss T G L O R P C B D S N (MV bm (BH 73 [b0] ++ [ob 0 (aDefs 0)]))) none (CH sb ss T G L O R P C B D S N (MV bm (BH 73 [b0, (z, w, f, ds, zf, zf, zf)]))) := by
  refine aw_tree (I0_ok X _) [(true, 49), (false, 24), (true, 5)] [] rfl ?_
  refine aw_oi rfl rfl ?_
  refine aw_tree (I0_ok X _) [(true, 49), (false, 24), (true, 8)] [] rfl ?_
  dsimp only
  repeat' (first | refine And.intro ?_ ?_ | (refine aImp_e0 ?_; intro _) | (refine aImp_n0 ?_; intro _) | (refine aImp_i ?_; intro _))
  all_goals (try (first | omega | exact bI_01 _ | exact bI_lo _ | exact bI_hi _ | exact bI_hi' _ | exact trivial | exact Or.inl rfl | exact Or.inr rfl | (exfalso; omega)))
  all_goals rfl
set_option maxRecDepth 100000 in
theorem c_hadd1 {X : AX} (d : Nat) (sb ss : Nat) (T : TyT) (G : TyG) (L : TyL) (O : TyO) (R : TyR) (P : TyP) (C : TyC) (B D : TyB) (S N : TyS) (bm : AC24) (b0 : TyBn) (w f dp : Int) (hL : L.2.1 = 1) (hb : hlB L) (hw : 4 ≤ w ∧ w ≤ 40) :
    AF X (d + 4) 4 2705 16 [rf 12, iv w, iv f, iv dp] (CH sb ss T G L O R P C B D S N (MV bm (BH 73 [b0]))) none (CH sb ss T G (aUp L.1 L.2.1 (some 77), L.2.1 + 1, L.2.2.1, L.2.2.2.1, L.2.2.2.2) O R P C B D S N (MV bm (BH 73 [b0, (L.2.1, w, f, (b0.2.2.2.1 + dp), zf, zf, zf)]))) := by
  refine aw_tree (I0_ok X _) [(true, 49), (false, 24), (true, 4)] [] rfl ?_
  repeat' (first | refine And.intro ?_ ?_ | (refine aImp_e0 ?_; intro _) | (refine aImp_n0 ?_; intro _) | (refine aImp_i ?_; intro _))
  all_goals (try (first | omega | exact bI_01 _ | exact bI_lo _ | exact bI_hi _ | exact bI_hi' _ | exact trivial | exact Or.inl rfl | exact Or.inr rfl | (exfalso; omega)))
  refine aw_cf0 (c_benchAt _ sb ss T G L O R P C B D S N (MV bm (BH 73 [b0])) (L.2.1 - 1) 73 (by omega) (by omega) (by rw [show L.2.1 - 1 = ((0 : Nat) : Int) from by omega]; exact hb 0 (by omega))) rfl ?_
  refine aw_tree (I0_ok X _) [(true, 49), (false, 24), (true, 5)] [] rfl ?_
  dsimp only
  repeat' (first | refine And.intro ?_ ?_ | (refine aImp_e0 ?_; intro _) | (refine aImp_n0 ?_; intro _) | (refine aImp_i ?_; intro _))
  all_goals (try (first | omega | exact bI_01 _ | exact bI_lo _ | exact bI_hi _ | exact bI_hi' _ | exact trivial | exact Or.inl rfl | exact Or.inr rfl | (exfalso; omega)))
  · exact Nat.le_of_ble_eq_true rfl
  refine aw_cf (kc2 := 0) (ks2 := 0) (c_binit1 _ sb ss T G L O R P C B D S N bm b0 L.2.1 w f (b0.2.2.2.1 + dp) hw) rfl rfl rfl ?_
  refine aw_tree (I0_ok X _) [(true, 49), (false, 24), (true, 8)] [] rfl ?_
  dsimp only
  repeat' (first | refine And.intro ?_ ?_ | (refine aImp_e0 ?_; intro _) | (refine aImp_n0 ?_; intro _) | (refine aImp_i ?_; intro _))
  all_goals (try (first | omega | exact bI_01 _ | exact bI_lo _ | exact bI_hi _ | exact bI_hi' _ | exact trivial | exact Or.inl rfl | exact Or.inr rfl | (exfalso; omega)))
  all_goals rfl
set_option maxRecDepth 100000 in
theorem c_binit2 {X : AX} (d : Nat) (sb ss : Nat) (T : TyT) (G : TyG) (L : TyL) (O : TyO) (R : TyR) (P : TyP) (C : TyC) (B D : TyB) (S N : TyS) (bm : AC24) (b0 b1 : TyBn) (z w f ds : Int) (hw : 4 ≤ w ∧ w ≤ 40) :
    AF X (d + 2) 3 2698 1 [rf 81, iv z, iv w, iv f, iv ds] (CH sb ss T G L O R P C B D S N (MV bm (BH 73 [b0, b1] ++ [ob 0 (aDefs 0)]))) none (CH sb ss T G L O R P C B D S N (MV bm (BH 73 [b0, b1, (z, w, f, ds, zf, zf, zf)]))) := by
  refine aw_tree (I0_ok X _) [(true, 49), (false, 24), (true, 9)] [] rfl ?_
  refine aw_oi rfl rfl ?_
  refine aw_tree (I0_ok X _) [(true, 49), (false, 24), (true, 12)] [] rfl ?_
  dsimp only
  repeat' (first | refine And.intro ?_ ?_ | (refine aImp_e0 ?_; intro _) | (refine aImp_n0 ?_; intro _) | (refine aImp_i ?_; intro _))
  all_goals (try (first | omega | exact bI_01 _ | exact bI_lo _ | exact bI_hi _ | exact bI_hi' _ | exact trivial | exact Or.inl rfl | exact Or.inr rfl | (exfalso; omega)))
  all_goals rfl
set_option maxRecDepth 100000 in
theorem c_hadd2 {X : AX} (d : Nat) (sb ss : Nat) (T : TyT) (G : TyG) (L : TyL) (O : TyO) (R : TyR) (P : TyP) (C : TyC) (B D : TyB) (S N : TyS) (bm : AC24) (b0 b1 : TyBn) (w f dp : Int) (hL : L.2.1 = 2) (hb : hlB L) (hw : 4 ≤ w ∧ w ≤ 40) :
    AF X (d + 4) 4 2705 16 [rf 12, iv w, iv f, iv dp] (CH sb ss T G L O R P C B D S N (MV bm (BH 73 [b0, b1]))) none (CH sb ss T G (aUp L.1 L.2.1 (some 81), L.2.1 + 1, L.2.2.1, L.2.2.2.1, L.2.2.2.2) O R P C B D S N (MV bm (BH 73 [b0, b1, (L.2.1, w, f, (b1.2.2.2.1 + dp), zf, zf, zf)]))) := by
  refine aw_tree (I0_ok X _) [(true, 49), (false, 24), (true, 8)] [] rfl ?_
  repeat' (first | refine And.intro ?_ ?_ | (refine aImp_e0 ?_; intro _) | (refine aImp_n0 ?_; intro _) | (refine aImp_i ?_; intro _))
  all_goals (try (first | omega | exact bI_01 _ | exact bI_lo _ | exact bI_hi _ | exact bI_hi' _ | exact trivial | exact Or.inl rfl | exact Or.inr rfl | (exfalso; omega)))
  refine aw_cf0 (c_benchAt _ sb ss T G L O R P C B D S N (MV bm (BH 73 [b0, b1])) (L.2.1 - 1) 77 (by omega) (by omega) (by rw [show L.2.1 - 1 = ((1 : Nat) : Int) from by omega]; exact hb 1 (by omega))) rfl ?_
  refine aw_tree (I0_ok X _) [(true, 49), (false, 24), (true, 9)] [] rfl ?_
  dsimp only
  repeat' (first | refine And.intro ?_ ?_ | (refine aImp_e0 ?_; intro _) | (refine aImp_n0 ?_; intro _) | (refine aImp_i ?_; intro _))
  all_goals (try (first | omega | exact bI_01 _ | exact bI_lo _ | exact bI_hi _ | exact bI_hi' _ | exact trivial | exact Or.inl rfl | exact Or.inr rfl | (exfalso; omega)))
  · exact Nat.le_of_ble_eq_true rfl
  refine aw_cf (kc2 := 0) (ks2 := 0) (c_binit2 _ sb ss T G L O R P C B D S N bm b0 b1 L.2.1 w f (b1.2.2.2.1 + dp) hw) rfl rfl rfl ?_
  refine aw_tree (I0_ok X _) [(true, 49), (false, 24), (true, 12)] [] rfl ?_
  dsimp only
  repeat' (first | refine And.intro ?_ ?_ | (refine aImp_e0 ?_; intro _) | (refine aImp_n0 ?_; intro _) | (refine aImp_i ?_; intro _))
  all_goals (try (first | omega | exact bI_01 _ | exact bI_lo _ | exact bI_hi _ | exact bI_hi' _ | exact trivial | exact Or.inl rfl | exact Or.inr rfl | (exfalso; omega)))
  all_goals rfl
set_option maxRecDepth 100000 in
theorem c_binit3 {X : AX} (d : Nat) (sb ss : Nat) (T : TyT) (G : TyG) (L : TyL) (O : TyO) (R : TyR) (P : TyP) (C : TyC) (B D : TyB) (S N : TyS) (bm : AC24) (b0 b1 b2 : TyBn) (z w f ds : Int) (hw : 4 ≤ w ∧ w ≤ 40) :
    AF X (d + 2) 3 2698 1 [rf 85, iv z, iv w, iv f, iv ds] (CH sb ss T G L O R P C B D S N (MV bm (BH 73 [b0, b1, b2] ++ [ob 0 (aDefs 0)]))) none (CH sb ss T G L O R P C B D S N (MV bm (BH 73 [b0, b1, b2, (z, w, f, ds, zf, zf, zf)]))) := by
  refine aw_tree (I0_ok X _) [(true, 49), (false, 24), (true, 13)] [] rfl ?_
  refine aw_oi rfl rfl ?_
  refine aw_tree (I0_ok X _) [(true, 49), (false, 24), (true, 16)] [] rfl ?_
  dsimp only
  repeat' (first | refine And.intro ?_ ?_ | (refine aImp_e0 ?_; intro _) | (refine aImp_n0 ?_; intro _) | (refine aImp_i ?_; intro _))
  all_goals (try (first | omega | exact bI_01 _ | exact bI_lo _ | exact bI_hi _ | exact bI_hi' _ | exact trivial | exact Or.inl rfl | exact Or.inr rfl | (exfalso; omega)))
  all_goals rfl
set_option maxRecDepth 100000 in
theorem c_hadd3 {X : AX} (d : Nat) (sb ss : Nat) (T : TyT) (G : TyG) (L : TyL) (O : TyO) (R : TyR) (P : TyP) (C : TyC) (B D : TyB) (S N : TyS) (bm : AC24) (b0 b1 b2 : TyBn) (w f dp : Int) (hL : L.2.1 = 3) (hb : hlB L) (hw : 4 ≤ w ∧ w ≤ 40) :
    AF X (d + 4) 4 2705 16 [rf 12, iv w, iv f, iv dp] (CH sb ss T G L O R P C B D S N (MV bm (BH 73 [b0, b1, b2]))) none (CH sb ss T G (aUp L.1 L.2.1 (some 85), L.2.1 + 1, L.2.2.1, L.2.2.2.1, L.2.2.2.2) O R P C B D S N (MV bm (BH 73 [b0, b1, b2, (L.2.1, w, f, (b2.2.2.2.1 + dp), zf, zf, zf)]))) := by
  refine aw_tree (I0_ok X _) [(true, 49), (false, 24), (true, 12)] [] rfl ?_
  repeat' (first | refine And.intro ?_ ?_ | (refine aImp_e0 ?_; intro _) | (refine aImp_n0 ?_; intro _) | (refine aImp_i ?_; intro _))
  all_goals (try (first | omega | exact bI_01 _ | exact bI_lo _ | exact bI_hi _ | exact bI_hi' _ | exact trivial | exact Or.inl rfl | exact Or.inr rfl | (exfalso; omega)))
  refine aw_cf0 (c_benchAt _ sb ss T G L O R P C B D S N (MV bm (BH 73 [b0, b1, b2])) (L.2.1 - 1) 81 (by omega) (by omega) (by rw [show L.2.1 - 1 = ((2 : Nat) : Int) from by omega]; exact hb 2 (by omega))) rfl ?_
  refine aw_tree (I0_ok X _) [(true, 49), (false, 24), (true, 13)] [] rfl ?_
  dsimp only
  repeat' (first | refine And.intro ?_ ?_ | (refine aImp_e0 ?_; intro _) | (refine aImp_n0 ?_; intro _) | (refine aImp_i ?_; intro _))
  all_goals (try (first | omega | exact bI_01 _ | exact bI_lo _ | exact bI_hi _ | exact bI_hi' _ | exact trivial | exact Or.inl rfl | exact Or.inr rfl | (exfalso; omega)))
  · exact Nat.le_of_ble_eq_true rfl
  refine aw_cf (kc2 := 0) (ks2 := 0) (c_binit3 _ sb ss T G L O R P C B D S N bm b0 b1 b2 L.2.1 w f (b2.2.2.2.1 + dp) hw) rfl rfl rfl ?_
  refine aw_tree (I0_ok X _) [(true, 49), (false, 24), (true, 16)] [] rfl ?_
  dsimp only
  repeat' (first | refine And.intro ?_ ?_ | (refine aImp_e0 ?_; intro _) | (refine aImp_n0 ?_; intro _) | (refine aImp_i ?_; intro _))
  all_goals (try (first | omega | exact bI_01 _ | exact bI_lo _ | exact bI_hi _ | exact bI_hi' _ | exact trivial | exact Or.inl rfl | exact Or.inr rfl | (exfalso; omega)))
  all_goals rfl
set_option maxRecDepth 100000 in
theorem c_binit4 {X : AX} (d : Nat) (sb ss : Nat) (T : TyT) (G : TyG) (L : TyL) (O : TyO) (R : TyR) (P : TyP) (C : TyC) (B D : TyB) (S N : TyS) (bm : AC24) (b0 b1 b2 b3 : TyBn) (z w f ds : Int) (hw : 4 ≤ w ∧ w ≤ 40) :
    AF X (d + 2) 3 2698 1 [rf 89, iv z, iv w, iv f, iv ds] (CH sb ss T G L O R P C B D S N (MV bm (BH 73 [b0, b1, b2, b3] ++ [ob 0 (aDefs 0)]))) none (CH sb ss T G L O R P C B D S N (MV bm (BH 73 [b0, b1, b2, b3, (z, w, f, ds, zf, zf, zf)]))) := by
  refine aw_tree (I0_ok X _) [(true, 49), (false, 24), (true, 17)] [] rfl ?_
  refine aw_oi rfl rfl ?_
  refine aw_tree (I0_ok X _) [(true, 49), (false, 24), (true, 20)] [] rfl ?_
  dsimp only
  repeat' (first | refine And.intro ?_ ?_ | (refine aImp_e0 ?_; intro _) | (refine aImp_n0 ?_; intro _) | (refine aImp_i ?_; intro _))
  all_goals (try (first | omega | exact bI_01 _ | exact bI_lo _ | exact bI_hi _ | exact bI_hi' _ | exact trivial | exact Or.inl rfl | exact Or.inr rfl | (exfalso; omega)))
  all_goals rfl
set_option maxRecDepth 100000 in
theorem c_hadd4 {X : AX} (d : Nat) (sb ss : Nat) (T : TyT) (G : TyG) (L : TyL) (O : TyO) (R : TyR) (P : TyP) (C : TyC) (B D : TyB) (S N : TyS) (bm : AC24) (b0 b1 b2 b3 : TyBn) (w f dp : Int) (hL : L.2.1 = 4) (hb : hlB L) (hw : 4 ≤ w ∧ w ≤ 40) :
    AF X (d + 4) 4 2705 16 [rf 12, iv w, iv f, iv dp] (CH sb ss T G L O R P C B D S N (MV bm (BH 73 [b0, b1, b2, b3]))) none (CH sb ss T G (aUp L.1 L.2.1 (some 89), L.2.1 + 1, L.2.2.1, L.2.2.2.1, L.2.2.2.2) O R P C B D S N (MV bm (BH 73 [b0, b1, b2, b3, (L.2.1, w, f, (b3.2.2.2.1 + dp), zf, zf, zf)]))) := by
  refine aw_tree (I0_ok X _) [(true, 49), (false, 24), (true, 16)] [] rfl ?_
  repeat' (first | refine And.intro ?_ ?_ | (refine aImp_e0 ?_; intro _) | (refine aImp_n0 ?_; intro _) | (refine aImp_i ?_; intro _))
  all_goals (try (first | omega | exact bI_01 _ | exact bI_lo _ | exact bI_hi _ | exact bI_hi' _ | exact trivial | exact Or.inl rfl | exact Or.inr rfl | (exfalso; omega)))
  refine aw_cf0 (c_benchAt _ sb ss T G L O R P C B D S N (MV bm (BH 73 [b0, b1, b2, b3])) (L.2.1 - 1) 85 (by omega) (by omega) (by rw [show L.2.1 - 1 = ((3 : Nat) : Int) from by omega]; exact hb 3 (by omega))) rfl ?_
  refine aw_tree (I0_ok X _) [(true, 49), (false, 24), (true, 17)] [] rfl ?_
  dsimp only
  repeat' (first | refine And.intro ?_ ?_ | (refine aImp_e0 ?_; intro _) | (refine aImp_n0 ?_; intro _) | (refine aImp_i ?_; intro _))
  all_goals (try (first | omega | exact bI_01 _ | exact bI_lo _ | exact bI_hi _ | exact bI_hi' _ | exact trivial | exact Or.inl rfl | exact Or.inr rfl | (exfalso; omega)))
  · exact Nat.le_of_ble_eq_true rfl
  refine aw_cf (kc2 := 0) (ks2 := 0) (c_binit4 _ sb ss T G L O R P C B D S N bm b0 b1 b2 b3 L.2.1 w f (b3.2.2.2.1 + dp) hw) rfl rfl rfl ?_
  refine aw_tree (I0_ok X _) [(true, 49), (false, 24), (true, 20)] [] rfl ?_
  dsimp only
  repeat' (first | refine And.intro ?_ ?_ | (refine aImp_e0 ?_; intro _) | (refine aImp_n0 ?_; intro _) | (refine aImp_i ?_; intro _))
  all_goals (try (first | omega | exact bI_01 _ | exact bI_lo _ | exact bI_hi _ | exact bI_hi' _ | exact trivial | exact Or.inl rfl | exact Or.inr rfl | (exfalso; omega)))
  all_goals rfl
set_option maxRecDepth 100000 in
theorem c_binit5 {X : AX} (d : Nat) (sb ss : Nat) (T : TyT) (G : TyG) (L : TyL) (O : TyO) (R : TyR) (P : TyP) (C : TyC) (B D : TyB) (S N : TyS) (bm : AC24) (b0 b1 b2 b3 b4 : TyBn) (z w f ds : Int) (hw : 4 ≤ w ∧ w ≤ 40) :
    AF X (d + 2) 3 2698 1 [rf 93, iv z, iv w, iv f, iv ds] (CH sb ss T G L O R P C B D S N (MV bm (BH 73 [b0, b1, b2, b3, b4] ++ [ob 0 (aDefs 0)]))) none (CH sb ss T G L O R P C B D S N (MV bm (BH 73 [b0, b1, b2, b3, b4, (z, w, f, ds, zf, zf, zf)]))) := by
  refine aw_tree (I0_ok X _) [(true, 49), (false, 24), (true, 21)] [] rfl ?_
  refine aw_oi rfl rfl ?_
  refine aw_tree (I0_ok X _) [(true, 49), (false, 24), (true, 24)] [] rfl ?_
  dsimp only
  repeat' (first | refine And.intro ?_ ?_ | (refine aImp_e0 ?_; intro _) | (refine aImp_n0 ?_; intro _) | (refine aImp_i ?_; intro _))
  all_goals (try (first | omega | exact bI_01 _ | exact bI_lo _ | exact bI_hi _ | exact bI_hi' _ | exact trivial | exact Or.inl rfl | exact Or.inr rfl | (exfalso; omega)))
  all_goals rfl
set_option maxRecDepth 100000 in
theorem c_hadd5 {X : AX} (d : Nat) (sb ss : Nat) (T : TyT) (G : TyG) (L : TyL) (O : TyO) (R : TyR) (P : TyP) (C : TyC) (B D : TyB) (S N : TyS) (bm : AC24) (b0 b1 b2 b3 b4 : TyBn) (w f dp : Int) (hL : L.2.1 = 5) (hb : hlB L) (hw : 4 ≤ w ∧ w ≤ 40) :
    AF X (d + 4) 4 2705 16 [rf 12, iv w, iv f, iv dp] (CH sb ss T G L O R P C B D S N (MV bm (BH 73 [b0, b1, b2, b3, b4]))) none (CH sb ss T G (aUp L.1 L.2.1 (some 93), L.2.1 + 1, L.2.2.1, L.2.2.2.1, L.2.2.2.2) O R P C B D S N (MV bm (BH 73 [b0, b1, b2, b3, b4, (L.2.1, w, f, (b4.2.2.2.1 + dp), zf, zf, zf)]))) := by
  refine aw_tree (I0_ok X _) [(true, 49), (false, 24), (true, 20)] [] rfl ?_
  repeat' (first | refine And.intro ?_ ?_ | (refine aImp_e0 ?_; intro _) | (refine aImp_n0 ?_; intro _) | (refine aImp_i ?_; intro _))
  all_goals (try (first | omega | exact bI_01 _ | exact bI_lo _ | exact bI_hi _ | exact bI_hi' _ | exact trivial | exact Or.inl rfl | exact Or.inr rfl | (exfalso; omega)))
  refine aw_cf0 (c_benchAt _ sb ss T G L O R P C B D S N (MV bm (BH 73 [b0, b1, b2, b3, b4])) (L.2.1 - 1) 89 (by omega) (by omega) (by rw [show L.2.1 - 1 = ((4 : Nat) : Int) from by omega]; exact hb 4 (by omega))) rfl ?_
  refine aw_tree (I0_ok X _) [(true, 49), (false, 24), (true, 21)] [] rfl ?_
  dsimp only
  repeat' (first | refine And.intro ?_ ?_ | (refine aImp_e0 ?_; intro _) | (refine aImp_n0 ?_; intro _) | (refine aImp_i ?_; intro _))
  all_goals (try (first | omega | exact bI_01 _ | exact bI_lo _ | exact bI_hi _ | exact bI_hi' _ | exact trivial | exact Or.inl rfl | exact Or.inr rfl | (exfalso; omega)))
  · exact Nat.le_of_ble_eq_true rfl
  refine aw_cf (kc2 := 0) (ks2 := 0) (c_binit5 _ sb ss T G L O R P C B D S N bm b0 b1 b2 b3 b4 L.2.1 w f (b4.2.2.2.1 + dp) hw) rfl rfl rfl ?_
  refine aw_tree (I0_ok X _) [(true, 49), (false, 24), (true, 24)] [] rfl ?_
  dsimp only
  repeat' (first | refine And.intro ?_ ?_ | (refine aImp_e0 ?_; intro _) | (refine aImp_n0 ?_; intro _) | (refine aImp_i ?_; intro _))
  all_goals (try (first | omega | exact bI_01 _ | exact bI_lo _ | exact bI_hi _ | exact bI_hi' _ | exact trivial | exact Or.inl rfl | exact Or.inr rfl | (exfalso; omega)))
  all_goals rfl

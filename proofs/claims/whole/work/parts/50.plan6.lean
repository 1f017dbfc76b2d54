/-! ===== any bench ===== -/
theorem c_canSit0 {X : AX} (d : Nat) (sb ss : Nat) (T : TyT) (G : TyG) (L : TyL) (O : TyO) (R : TyR) (P : TyP) (C : TyC) (B D : TyB) (S N : TyS) (bm : AC24) (bt : List TyBn) (x : TyBn) (V : DP) (pr i p : Int) (hV : kD V) (hP : rP P V) (hx : x.1 = 0 ∧ (0 ≤ x.2.1 ∧ x.2.1 ≤ 40)) (hi : 0 ≤ i ∧ i < dN V) (hp : 0 ≤ p ∧ p ≤ 100) (hpr : inR pr) (hA : tA V 0 x 0) :
    AF X (d + 4) 0 0 36 [rf 17, iv pr, rf 73, iv i, iv p] (CH sb ss T G L O R P C B D S N (MV bm (BH 73 (x :: bt)))) (some (iv (bI (p + dW V i ≤ x.2.1 ∧ VV V (dN V - (i + 1)).toNat (dB V i) 0 (p + dW V i) + dM V i 0 p = pr)))) (CH sb ss T G L O R P C B D S N (MV bm (BH 73 (x :: bt)))) := by
  have hn := hV.1
  have hw := hV.2.2.1 i hi.1 hi.2
  have hpi := (hP.2.1 i hi.1 hi.2).1
  have v1 := VV_r hV (dN V - (i + 1)).toNat (dB V i) 0 (p + dW V i) (by omega)
  have v2 := hV.2.2.2.1 i 0 p
  unfold inR at hpr
  refine aw_tree (I1_ok X _) [(true, 49), (false, 24), (true, 4)] [] rfl ?_
  rw [hpi]
  dsimp only
  repeat' (first | refine And.intro ?_ ?_ | (refine aImp_e0 ?_; intro _) | (refine aImp_n0 ?_; intro _) | (refine aImp_i ?_; intro _))
  all_goals (try (first | omega | exact bI_01 _ | exact bI_lo _ | exact bI_hi _ | exact bI_hi' _ | exact trivial | exact Or.inl rfl | exact Or.inr rfl | (exfalso; omega)))
  · rw [bI_f (fun h => by omega)]
  · rfl
  · refine aw_cf0 (c_sitPrice0 (d + 0) sb ss T G L O R P C B D S N bm bt x V i p hV hP hx hi (by omega) (hA i p hi.1 hi.2 hp.1 (by omega))) rfl ?_
    refine aw_tree (I1_ok X _) [(true, 49), (false, 24), (true, 4)] [] rfl ?_
    dsimp only
    repeat' (first | refine And.intro ?_ ?_ | (refine aImp_e0 ?_; intro _) | (refine aImp_n0 ?_; intro _) | (refine aImp_i ?_; intro _))
    all_goals (try (first | omega | exact bI_01 _ | exact bI_lo _ | exact bI_hi _ | exact bI_hi' _ | exact trivial | exact Or.inl rfl | exact Or.inr rfl | (exfalso; omega)))
    · rw [bI_f (fun h => by omega)]
    · rfl
    · rw [bI_t ⟨by omega, by omega⟩]
    · rfl
theorem c_canSit1 {X : AX} (d : Nat) (sb ss : Nat) (T : TyT) (G : TyG) (L : TyL) (O : TyO) (R : TyR) (P : TyP) (C : TyC) (B D : TyB) (S N : TyS) (bm : AC24) (b0 : TyBn) (bt : List TyBn) (x : TyBn) (V : DP) (pr i p : Int) (hV : kD V) (hP : rP P V) (hx : x.1 = 1 ∧ (0 ≤ x.2.1 ∧ x.2.1 ≤ 40)) (hi : 0 ≤ i ∧ i < dN V) (hp : 0 ≤ p ∧ p ≤ 100) (hpr : inR pr) (hA : tA V 1 x 0) :
    AF X (d + 4) 0 0 36 [rf 17, iv pr, rf 77, iv i, iv p] (CH sb ss T G L O R P C B D S N (MV bm (BH 73 (b0 :: x :: bt)))) (some (iv (bI (p + dW V i ≤ x.2.1 ∧ VV V (dN V - (i + 1)).toNat (dB V i) 1 (p + dW V i) + dM V i 1 p = pr)))) (CH sb ss T G L O R P C B D S N (MV bm (BH 73 (b0 :: x :: bt)))) := by
  have hn := hV.1
  have hw := hV.2.2.1 i hi.1 hi.2
  have hpi := (hP.2.1 i hi.1 hi.2).1
  have v1 := VV_r hV (dN V - (i + 1)).toNat (dB V i) 1 (p + dW V i) (by omega)
  have v2 := hV.2.2.2.1 i 1 p
  unfold inR at hpr
  refine aw_tree (I1_ok X _) [(true, 49), (false, 24), (true, 8)] [] rfl ?_
  rw [hpi]
  dsimp only
  repeat' (first | refine And.intro ?_ ?_ | (refine aImp_e0 ?_; intro _) | (refine aImp_n0 ?_; intro _) | (refine aImp_i ?_; intro _))
  all_goals (try (first | omega | exact bI_01 _ | exact bI_lo _ | exact bI_hi _ | exact bI_hi' _ | exact trivial | exact Or.inl rfl | exact Or.inr rfl | (exfalso; omega)))
  · rw [bI_f (fun h => by omega)]
  · rfl
  · refine aw_cf0 (c_sitPrice1 (d + 0) sb ss T G L O R P C B D S N bm b0 bt x V i p hV hP hx hi (by omega) (hA i p hi.1 hi.2 hp.1 (by omega))) rfl ?_
    refine aw_tree (I1_ok X _) [(true, 49), (false, 24), (true, 8)] [] rfl ?_
    dsimp only
    repeat' (first | refine And.intro ?_ ?_ | (refine aImp_e0 ?_; intro _) | (refine aImp_n0 ?_; intro _) | (refine aImp_i ?_; intro _))
    all_goals (try (first | omega | exact bI_01 _ | exact bI_lo _ | exact bI_hi _ | exact bI_hi' _ | exact trivial | exact Or.inl rfl | exact Or.inr rfl | (exfalso; omega)))
    · rw [bI_f (fun h => by omega)]
    · rfl
    · rw [bI_t ⟨by omega, by omega⟩]
    · rfl
theorem c_canSit2 {X : AX} (d : Nat) (sb ss : Nat) (T : TyT) (G : TyG) (L : TyL) (O : TyO) (R : TyR) (P : TyP) (C : TyC) (B D : TyB) (S N : TyS) (bm : AC24) (b0 b1 : TyBn) (bt : List TyBn) (x : TyBn) (V : DP) (pr i p : Int) (hV : kD V) (hP : rP P V) (hx : x.1 = 2 ∧ (0 ≤ x.2.1 ∧ x.2.1 ≤ 40)) (hi : 0 ≤ i ∧ i < dN V) (hp : 0 ≤ p ∧ p ≤ 100) (hpr : inR pr) (hA : tA V 2 x 0) :
    AF X (d + 4) 0 0 36 [rf 17, iv pr, rf 81, iv i, iv p] (CH sb ss T G L O R P C B D S N (MV bm (BH 73 (b0 :: b1 :: x :: bt)))) (some (iv (bI (p + dW V i ≤ x.2.1 ∧ VV V (dN V - (i + 1)).toNat (dB V i) 2 (p + dW V i) + dM V i 2 p = pr)))) (CH sb ss T G L O R P C B D S N (MV bm (BH 73 (b0 :: b1 :: x :: bt)))) := by
  have hn := hV.1
  have hw := hV.2.2.1 i hi.1 hi.2
  have hpi := (hP.2.1 i hi.1 hi.2).1
  have v1 := VV_r hV (dN V - (i + 1)).toNat (dB V i) 2 (p + dW V i) (by omega)
  have v2 := hV.2.2.2.1 i 2 p
  unfold inR at hpr
  refine aw_tree (I1_ok X _) [(true, 49), (false, 24), (true, 12)] [] rfl ?_
  rw [hpi]
  dsimp only
  repeat' (first | refine And.intro ?_ ?_ | (refine aImp_e0 ?_; intro _) | (refine aImp_n0 ?_; intro _) | (refine aImp_i ?_; intro _))
  all_goals (try (first | omega | exact bI_01 _ | exact bI_lo _ | exact bI_hi _ | exact bI_hi' _ | exact trivial | exact Or.inl rfl | exact Or.inr rfl | (exfalso; omega)))
  · rw [bI_f (fun h => by omega)]
  · rfl
  · refine aw_cf0 (c_sitPrice2 (d + 0) sb ss T G L O R P C B D S N bm b0 b1 bt x V i p hV hP hx hi (by omega) (hA i p hi.1 hi.2 hp.1 (by omega))) rfl ?_
    refine aw_tree (I1_ok X _) [(true, 49), (false, 24), (true, 12)] [] rfl ?_
    dsimp only
    repeat' (first | refine And.intro ?_ ?_ | (refine aImp_e0 ?_; intro _) | (refine aImp_n0 ?_; intro _) | (refine aImp_i ?_; intro _))
    all_goals (try (first | omega | exact bI_01 _ | exact bI_lo _ | exact bI_hi _ | exact bI_hi' _ | exact trivial | exact Or.inl rfl | exact Or.inr rfl | (exfalso; omega)))
    · rw [bI_f (fun h => by omega)]
    · rfl
    · rw [bI_t ⟨by omega, by omega⟩]
    · rfl
theorem c_canSit3 {X : AX} (d : Nat) (sb ss : Nat) (T : TyT) (G : TyG) (L : TyL) (O : TyO) (R : TyR) (P : TyP) (C : TyC) (B D : TyB) (S N : TyS) (bm : AC24) (b0 b1 b2 : TyBn) (bt : List TyBn) (x : TyBn) (V : DP) (pr i p : Int) (hV : kD V) (hP : rP P V) (hx : x.1 = 3 ∧ (0 ≤ x.2.1 ∧ x.2.1 ≤ 40)) (hi : 0 ≤ i ∧ i < dN V) (hp : 0 ≤ p ∧ p ≤ 100) (hpr : inR pr) (hA : tA V 3 x 0) :
    AF X (d + 4) 0 0 36 [rf 17, iv pr, rf 85, iv i, iv p] (CH sb ss T G L O R P C B D S N (MV bm (BH 73 (b0 :: b1 :: b2 :: x :: bt)))) (some (iv (bI (p + dW V i ≤ x.2.1 ∧ VV V (dN V - (i + 1)).toNat (dB V i) 3 (p + dW V i) + dM V i 3 p = pr)))) (CH sb ss T G L O R P C B D S N (MV bm (BH 73 (b0 :: b1 :: b2 :: x :: bt)))) := by
  have hn := hV.1
  have hw := hV.2.2.1 i hi.1 hi.2
  have hpi := (hP.2.1 i hi.1 hi.2).1
  have v1 := VV_r hV (dN V - (i + 1)).toNat (dB V i) 3 (p + dW V i) (by omega)
  have v2 := hV.2.2.2.1 i 3 p
  unfold inR at hpr
  refine aw_tree (I1_ok X _) [(true, 49), (false, 24), (true, 16)] [] rfl ?_
  rw [hpi]
  dsimp only
  repeat' (first | refine And.intro ?_ ?_ | (refine aImp_e0 ?_; intro _) | (refine aImp_n0 ?_; intro _) | (refine aImp_i ?_; intro _))
  all_goals (try (first | omega | exact bI_01 _ | exact bI_lo _ | exact bI_hi _ | exact bI_hi' _ | exact trivial | exact Or.inl rfl | exact Or.inr rfl | (exfalso; omega)))
  · rw [bI_f (fun h => by omega)]
  · rfl
  · refine aw_cf0 (c_sitPrice3 (d + 0) sb ss T G L O R P C B D S N bm b0 b1 b2 bt x V i p hV hP hx hi (by omega) (hA i p hi.1 hi.2 hp.1 (by omega))) rfl ?_
    refine aw_tree (I1_ok X _) [(true, 49), (false, 24), (true, 16)] [] rfl ?_
    dsimp only
    repeat' (first | refine And.intro ?_ ?_ | (refine aImp_e0 ?_; intro _) | (refine aImp_n0 ?_; intro _) | (refine aImp_i ?_; intro _))
    all_goals (try (first | omega | exact bI_01 _ | exact bI_lo _ | exact bI_hi _ | exact bI_hi' _ | exact trivial | exact Or.inl rfl | exact Or.inr rfl | (exfalso; omega)))
    · rw [bI_f (fun h => by omega)]
    · rfl
    · rw [bI_t ⟨by omega, by omega⟩]
    · rfl
theorem c_canSit4 {X : AX} (d : Nat) (sb ss : Nat) (T : TyT) (G : TyG) (L : TyL) (O : TyO) (R : TyR) (P : TyP) (C : TyC) (B D : TyB) (S N : TyS) (bm : AC24) (b0 b1 b2 b3 : TyBn) (bt : List TyBn) (x : TyBn) (V : DP) (pr i p : Int) (hV : kD V) (hP : rP P V) (hx : x.1 = 4 ∧ (0 ≤ x.2.1 ∧ x.2.1 ≤ 40)) (hi : 0 ≤ i ∧ i < dN V) (hp : 0 ≤ p ∧ p ≤ 100) (hpr : inR pr) (hA : tA V 4 x 0) :
    AF X (d + 4) 0 0 36 [rf 17, iv pr, rf 89, iv i, iv p] (CH sb ss T G L O R P C B D S N (MV bm (BH 73 (b0 :: b1 :: b2 :: b3 :: x :: bt)))) (some (iv (bI (p + dW V i ≤ x.2.1 ∧ VV V (dN V - (i + 1)).toNat (dB V i) 4 (p + dW V i) + dM V i 4 p = pr)))) (CH sb ss T G L O R P C B D S N (MV bm (BH 73 (b0 :: b1 :: b2 :: b3 :: x :: bt)))) := by
  have hn := hV.1
  have hw := hV.2.2.1 i hi.1 hi.2
  have hpi := (hP.2.1 i hi.1 hi.2).1
  have v1 := VV_r hV (dN V - (i + 1)).toNat (dB V i) 4 (p + dW V i) (by omega)
  have v2 := hV.2.2.2.1 i 4 p
  unfold inR at hpr
  refine aw_tree (I1_ok X _) [(true, 49), (false, 24), (true, 20)] [] rfl ?_
  rw [hpi]
  dsimp only
  repeat' (first | refine And.intro ?_ ?_ | (refine aImp_e0 ?_; intro _) | (refine aImp_n0 ?_; intro _) | (refine aImp_i ?_; intro _))
  all_goals (try (first | omega | exact bI_01 _ | exact bI_lo _ | exact bI_hi _ | exact bI_hi' _ | exact trivial | exact Or.inl rfl | exact Or.inr rfl | (exfalso; omega)))
  · rw [bI_f (fun h => by omega)]
  · rfl
  · refine aw_cf0 (c_sitPrice4 (d + 0) sb ss T G L O R P C B D S N bm b0 b1 b2 b3 bt x V i p hV hP hx hi (by omega) (hA i p hi.1 hi.2 hp.1 (by omega))) rfl ?_
    refine aw_tree (I1_ok X _) [(true, 49), (false, 24), (true, 20)] [] rfl ?_
    dsimp only
    repeat' (first | refine And.intro ?_ ?_ | (refine aImp_e0 ?_; intro _) | (refine aImp_n0 ?_; intro _) | (refine aImp_i ?_; intro _))
    all_goals (try (first | omega | exact bI_01 _ | exact bI_lo _ | exact bI_hi _ | exact bI_hi' _ | exact trivial | exact Or.inl rfl | exact Or.inr rfl | (exfalso; omega)))
    · rw [bI_f (fun h => by omega)]
    · rfl
    · rw [bI_t ⟨by omega, by omega⟩]
    · rfl
theorem c_canSit5 {X : AX} (d : Nat) (sb ss : Nat) (T : TyT) (G : TyG) (L : TyL) (O : TyO) (R : TyR) (P : TyP) (C : TyC) (B D : TyB) (S N : TyS) (bm : AC24) (b0 b1 b2 b3 b4 : TyBn) (bt : List TyBn) (x : TyBn) (V : DP) (pr i p : Int) (hV : kD V) (hP : rP P V) (hx : x.1 = 5 ∧ (0 ≤ x.2.1 ∧ x.2.1 ≤ 40)) (hi : 0 ≤ i ∧ i < dN V) (hp : 0 ≤ p ∧ p ≤ 100) (hpr : inR pr) (hA : tA V 5 x 0) :
    AF X (d + 4) 0 0 36 [rf 17, iv pr, rf 93, iv i, iv p] (CH sb ss T G L O R P C B D S N (MV bm (BH 73 (b0 :: b1 :: b2 :: b3 :: b4 :: x :: bt)))) (some (iv (bI (p + dW V i ≤ x.2.1 ∧ VV V (dN V - (i + 1)).toNat (dB V i) 5 (p + dW V i) + dM V i 5 p = pr)))) (CH sb ss T G L O R P C B D S N (MV bm (BH 73 (b0 :: b1 :: b2 :: b3 :: b4 :: x :: bt)))) := by
  have hn := hV.1
  have hw := hV.2.2.1 i hi.1 hi.2
  have hpi := (hP.2.1 i hi.1 hi.2).1
  have v1 := VV_r hV (dN V - (i + 1)).toNat (dB V i) 5 (p + dW V i) (by omega)
  have v2 := hV.2.2.2.1 i 5 p
  unfold inR at hpr
  refine aw_tree (I1_ok X _) [(true, 49), (false, 24), (true, 24)] [] rfl ?_
  rw [hpi]
  dsimp only
  repeat' (first | refine And.intro ?_ ?_ | (refine aImp_e0 ?_; intro _) | (refine aImp_n0 ?_; intro _) | (refine aImp_i ?_; intro _))
  all_goals (try (first | omega | exact bI_01 _ | exact bI_lo _ | exact bI_hi _ | exact bI_hi' _ | exact trivial | exact Or.inl rfl | exact Or.inr rfl | (exfalso; omega)))
  · rw [bI_f (fun h => by omega)]
  · rfl
  · refine aw_cf0 (c_sitPrice5 (d + 0) sb ss T G L O R P C B D S N bm b0 b1 b2 b3 b4 bt x V i p hV hP hx hi (by omega) (hA i p hi.1 hi.2 hp.1 (by omega))) rfl ?_
    refine aw_tree (I1_ok X _) [(true, 49), (false, 24), (true, 24)] [] rfl ?_
    dsimp only
    repeat' (first | refine And.intro ?_ ?_ | (refine aImp_e0 ?_; intro _) | (refine aImp_n0 ?_; intro _) | (refine aImp_i ?_; intro _))
    all_goals (try (first | omega | exact bI_01 _ | exact bI_lo _ | exact bI_hi _ | exact bI_hi' _ | exact trivial | exact Or.inl rfl | exact Or.inr rfl | (exfalso; omega)))
    · rw [bI_f (fun h => by omega)]
    · rfl
    · rw [bI_t ⟨by omega, by omega⟩]
    · rfl

theorem c_canSitG {X : AX} (d : Nat) (sb ss : Nat) (T : TyT) (G : TyG) (L : TyL) (O : TyO) (R : TyR) (P : TyP) (C : TyC) (B D : TyB) (S N : TyS) (bm : AC24) (β : List TyBn) (r : Nat) (x : TyBn) (V : DP) (pr i p : Int) (hV : kD V) (hP : rP P V) (hb : okB V β) (ht : tbs V β 0) (hx : β[r]? = some x) (hi : 0 ≤ i ∧ i < dN V) (hp : 0 ≤ p ∧ p ≤ 100) (hpr : inR pr) :
    AF X (d + 4) 0 0 36 [rf 17, iv pr, rf (73 + 4 * r), iv i, iv p] (CH sb ss T G L O R P C B D S N (MV bm (BH 73 β))) (some (iv (bI (p + dW V i ≤ x.2.1 ∧ VV V (dN V - (i + 1)).toNat (dB V i) r (p + dW V i) + dM V i r p = pr)))) (CH sb ss T G L O R P C B D S N (MV bm (BH 73 β))) := by
  obtain ⟨hl, _⟩ := List.getElem?_eq_some_iff.mp hx
  have h6 : r < 6 := by have := hb.1; have := hV.2.2.2.2.1; omega
  have hx0 := hb.2 r x hx
  have htx := ht r x (by omega) hx
  have hrR : (r : Int) < dR V := by have := hb.1; omega
  have hcases : r = 0 ∨ r = 1 ∨ r = 2 ∨ r = 3 ∨ r = 4 ∨ r = 5 := by omega
  rcases hcases with rfl | rfl | rfl | rfl | rfl | rfl
  · match β, hx with
    | x0 :: bt, hx =>
      cases hx
      exact c_canSit0 d sb ss T G L O R P C B D S N bm  bt x V pr i p hV hP ⟨hx0.1, hx0.2.1⟩ hi hp hpr htx.2.1
  · match β, hx with
    | b0 :: x0 :: bt, hx =>
      cases hx
      exact c_canSit1 d sb ss T G L O R P C B D S N bm b0 bt x V pr i p hV hP ⟨hx0.1, hx0.2.1⟩ hi hp hpr htx.2.1
  · match β, hx with
    | b0 :: b1 :: x0 :: bt, hx =>
      cases hx
      exact c_canSit2 d sb ss T G L O R P C B D S N bm b0 b1 bt x V pr i p hV hP ⟨hx0.1, hx0.2.1⟩ hi hp hpr htx.2.1
  · match β, hx with
    | b0 :: b1 :: b2 :: x0 :: bt, hx =>
      cases hx
      exact c_canSit3 d sb ss T G L O R P C B D S N bm b0 b1 b2 bt x V pr i p hV hP ⟨hx0.1, hx0.2.1⟩ hi hp hpr htx.2.1
  · match β, hx with
    | b0 :: b1 :: b2 :: b3 :: x0 :: bt, hx =>
      cases hx
      exact c_canSit4 d sb ss T G L O R P C B D S N bm b0 b1 b2 b3 bt x V pr i p hV hP ⟨hx0.1, hx0.2.1⟩ hi hp hpr htx.2.1
  · match β, hx with
    | b0 :: b1 :: b2 :: b3 :: b4 :: x0 :: bt, hx =>
      cases hx
      exact c_canSit5 d sb ss T G L O R P C B D S N bm b0 b1 b2 b3 b4 bt x V pr i p hV hP ⟨hx0.1, hx0.2.1⟩ hi hp hpr htx.2.1
theorem c_pbG {X : AX} (d : Nat) (sb ss : Nat) (T : TyT) (G : TyG) (L : TyL) (O : TyO) (R : TyR) (P : TyP) (C : TyC) (B D : TyB) (S N : TyS) (bm : AC24) (β : List TyBn) (r : Nat) (x : TyBn) (V : DP) (fr l e : Int) (hV : kD V) (hP : rP P V) (hb : okB V β) (ht : tbs V β 0) (hx : β[r]? = some x) (hf : 0 ≤ fr ∧ fr ≤ dN V) (hl0 : -1 ≤ l ∧ l < fr) (he : 0 ≤ e ∧ e ≤ x.2.1) :
    AF X (d + 5) 0 0 30 [rf 17, rf (73 + 4 * r), iv fr, iv l, iv e] (CH sb ss T G L O R P C B D S N (MV bm (BH 73 β))) (some (iv (VV V (dN V - fr).toNat (dB V l) r e))) (CH sb ss T G L O R P C B D S N (MV bm (BH 73 β))) := by
  obtain ⟨hl, _⟩ := List.getElem?_eq_some_iff.mp hx
  have h6 : r < 6 := by have := hb.1; have := hV.2.2.2.2.1; omega
  have hx0 := hb.2 r x hx
  have htx := ht r x (by omega) hx
  have hrR : (r : Int) < dR V := by have := hb.1; omega
  have hcases : r = 0 ∨ r = 1 ∨ r = 2 ∨ r = 3 ∨ r = 4 ∨ r = 5 := by omega
  rcases hcases with rfl | rfl | rfl | rfl | rfl | rfl
  · match β, hx with
    | x0 :: bt, hx =>
      cases hx
      exact c_priceBeside0 d sb ss T G L O R P C B D S N bm  bt x V fr l e hV hP ⟨hx0.1, hx0.2.1, hx0.2.2, hrR⟩ hf hl0 he (fun i u a b c d => htx.1 i u (by omega) b c d) (fun i u a b c d => htx.2.1 i u (by omega) b c d) (fun i a b => htx.2.2 i (by omega) b)
  · match β, hx with
    | b0 :: x0 :: bt, hx =>
      cases hx
      exact c_priceBeside1 d sb ss T G L O R P C B D S N bm b0 bt x V fr l e hV hP ⟨hx0.1, hx0.2.1, hx0.2.2, hrR⟩ hf hl0 he (fun i u a b c d => htx.1 i u (by omega) b c d) (fun i u a b c d => htx.2.1 i u (by omega) b c d) (fun i a b => htx.2.2 i (by omega) b)
  · match β, hx with
    | b0 :: b1 :: x0 :: bt, hx =>
      cases hx
      exact c_priceBeside2 d sb ss T G L O R P C B D S N bm b0 b1 bt x V fr l e hV hP ⟨hx0.1, hx0.2.1, hx0.2.2, hrR⟩ hf hl0 he (fun i u a b c d => htx.1 i u (by omega) b c d) (fun i u a b c d => htx.2.1 i u (by omega) b c d) (fun i a b => htx.2.2 i (by omega) b)
  · match β, hx with
    | b0 :: b1 :: b2 :: x0 :: bt, hx =>
      cases hx
      exact c_priceBeside3 d sb ss T G L O R P C B D S N bm b0 b1 b2 bt x V fr l e hV hP ⟨hx0.1, hx0.2.1, hx0.2.2, hrR⟩ hf hl0 he (fun i u a b c d => htx.1 i u (by omega) b c d) (fun i u a b c d => htx.2.1 i u (by omega) b c d) (fun i a b => htx.2.2 i (by omega) b)
  · match β, hx with
    | b0 :: b1 :: b2 :: b3 :: x0 :: bt, hx =>
      cases hx
      exact c_priceBeside4 d sb ss T G L O R P C B D S N bm b0 b1 b2 b3 bt x V fr l e hV hP ⟨hx0.1, hx0.2.1, hx0.2.2, hrR⟩ hf hl0 he (fun i u a b c d => htx.1 i u (by omega) b c d) (fun i u a b c d => htx.2.1 i u (by omega) b c d) (fun i a b => htx.2.2 i (by omega) b)
  · match β, hx with
    | b0 :: b1 :: b2 :: b3 :: b4 :: x0 :: bt, hx =>
      cases hx
      exact c_priceBeside5 d sb ss T G L O R P C B D S N bm b0 b1 b2 b3 b4 bt x V fr l e hV hP ⟨hx0.1, hx0.2.1, hx0.2.2, hrR⟩ hf hl0 he (fun i u a b c d => htx.1 i u (by omega) b c d) (fun i u a b c d => htx.2.1 i u (by omega) b c d) (fun i a b => htx.2.2 i (by omega) b)
theorem c_pfG {X : AX} (d : Nat) (sb ss : Nat) (T : TyT) (G : TyG) (L : TyL) (O : TyO) (R : TyR) (P : TyP) (C : TyC) (B D : TyB) (S N : TyS) (bm : AC24) (β : List TyBn) (r : Nat) (x : TyBn) (V : DP) (i : Int) (hV : kD V) (hb : okB V β) (ht : tbs V β 0) (hx : β[r]? = some x) (hi : 0 ≤ i ∧ i ≤ dN V) :
    AF X (d + 2) 0 0 27 [rf 17, rf (73 + 4 * r), iv i] (CH sb ss T G L O R P C B D S N (MV bm (BH 73 β))) (some (iv (VV V (dN V - i).toNat (fun _ => False) r 0))) (CH sb ss T G L O R P C B D S N (MV bm (BH 73 β))) := by
  obtain ⟨hl, _⟩ := List.getElem?_eq_some_iff.mp hx
  have h6 : r < 6 := by have := hb.1; have := hV.2.2.2.2.1; omega
  have hx0 := hb.2 r x hx
  have htx := ht r x (by omega) hx
  have hrR : (r : Int) < dR V := by have := hb.1; omega
  have hcases : r = 0 ∨ r = 1 ∨ r = 2 ∨ r = 3 ∨ r = 4 ∨ r = 5 := by omega
  rcases hcases with rfl | rfl | rfl | rfl | rfl | rfl
  · match β, hx with
    | x0 :: bt, hx =>
      cases hx
      exact c_pf0 d sb ss T G L O R P C B D S N bm  bt x V i hV hx0.2.1 hi htx.1
  · match β, hx with
    | b0 :: x0 :: bt, hx =>
      cases hx
      exact c_pf1 d sb ss T G L O R P C B D S N bm b0 bt x V i hV hx0.2.1 hi htx.1
  · match β, hx with
    | b0 :: b1 :: x0 :: bt, hx =>
      cases hx
      exact c_pf2 d sb ss T G L O R P C B D S N bm b0 b1 bt x V i hV hx0.2.1 hi htx.1
  · match β, hx with
    | b0 :: b1 :: b2 :: x0 :: bt, hx =>
      cases hx
      exact c_pf3 d sb ss T G L O R P C B D S N bm b0 b1 b2 bt x V i hV hx0.2.1 hi htx.1
  · match β, hx with
    | b0 :: b1 :: b2 :: b3 :: x0 :: bt, hx =>
      cases hx
      exact c_pf4 d sb ss T G L O R P C B D S N bm b0 b1 b2 b3 bt x V i hV hx0.2.1 hi htx.1
  · match β, hx with
    | b0 :: b1 :: b2 :: b3 :: b4 :: x0 :: bt, hx =>
      cases hx
      exact c_pf5 d sb ss T G L O R P C B D S N bm b0 b1 b2 b3 b4 bt x V i hV hx0.2.1 hi htx.1
theorem c_canSitN {X : AX} (d : Nat) (sb ss : Nat) (T : TyT) (G : TyG) (L : TyL) (O : TyO) (R : TyR) (P : TyP) (C : TyC) (B D : TyB) (S N : TyS) (t : AH) (pr i p : Int) : AF X (d + 4) 0 0 36 [rf 17, iv pr, nl, iv i, iv p] (CH sb ss T G L O R P C B D S N t) (some (iv 0)) (CH sb ss T G L O R P C B D S N t) := by
  refine aw_tree (I0_ok X _) [(true, 49)] [] rfl ?_
  repeat' (first | refine And.intro ?_ ?_ | (refine aImp_e0 ?_; intro _) | (refine aImp_n0 ?_; intro _) | (refine aImp_i ?_; intro _))
  all_goals (try (first | omega | exact bI_01 _ | exact bI_lo _ | exact bI_hi _ | exact bI_hi' _ | exact trivial | exact Or.inl rfl | exact Or.inr rfl | (exfalso; omega)))
  all_goals rfl
theorem c_placeBeside {X : AX} (d : Nat) (sb ss : Nat) (T : TyT) (G : TyG) (L : TyL) (O : TyO) (R : TyR) (P : TyP) (C : TyC) (B D : TyB) (S N : TyS) (t : AH) (i : Int) (V : DP) (hV : kD V) (hP : rP P V) (hl : -1 ≤ P.2.2.2.2.2.2.2.2.2.2.2.2.2 ∧ P.2.2.2.2.2.2.2.2.2.2.2.2.2 < i) (hi : i < dN V) : AF X (d + 3) 0 0 37 [rf 17, iv i] (CH sb ss T G L O R P C B D S N t) (some (iv (P.2.2.2.2.2.2.2.2.2.2.2.2.1 + cif (dB V P.2.2.2.2.2.2.2.2.2.2.2.2.2 i) (dF V) 0))) (CH sb ss T G L O R P C B D S N t) := by
  have hn := hV.1
  have p8 := hP.2.2.2.2.2.2.2.1
  refine aw_tree (I0_ok X _) [(true, 49)] [] rfl ?_
  refine aw_cf0 (c_pBarred (d + 0) sb ss T G L O R P C B D S N t _ i V hP hl hi (by omega)) rfl ?_
  by_cases hb : dB V P.2.2.2.2.2.2.2.2.2.2.2.2.2 i
  · rw [bI_t hb, cif_t hb, ← p8.1]
    refine aw_tree (I0_ok X _) [(true, 49)] [] rfl ?_
    repeat' (first | refine And.intro ?_ ?_ | (refine aImp_e0 ?_; intro _) | (refine aImp_n0 ?_; intro _) | (refine aImp_i ?_; intro _))
    all_goals (try (first | omega | exact bI_01 _ | exact bI_lo _ | exact bI_hi _ | exact bI_hi' _ | exact trivial | exact Or.inl rfl | exact Or.inr rfl | (exfalso; omega)))
    all_goals rfl
  · rw [bI_f hb, cif_f hb, Int.add_zero]
    refine aw_tree (I0_ok X _) [(true, 49)] [] rfl ?_
    repeat' (first | refine And.intro ?_ ?_ | (refine aImp_e0 ?_; intro _) | (refine aImp_n0 ?_; intro _) | (refine aImp_i ?_; intro _))
    all_goals (try (first | omega | exact bI_01 _ | exact bI_lo _ | exact bI_hi _ | exact bI_hi' _ | exact trivial | exact Or.inl rfl | exact Or.inr rfl | (exfalso; omega)))
    all_goals rfl

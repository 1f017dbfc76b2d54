theorem c_pfN {X : AX} (d : Nat) (sb ss : Nat) (T : TyT) (G : TyG) (L : TyL) (O : TyO) (R : TyR) (P : TyP) (C : TyC) (B D : TyB) (S N : TyS) (t : AH) (i : Int) (hi : 0 ≤ i ∧ i ≤ 32) : AF X (d + 2) 0 0 27 [rf 17, nl, iv i] (CH sb ss T G L O R P C B D S N t) (some (iv (P.2.2.2.2.2.2.2.1 i))) (CH sb ss T G L O R P C B D S N t) := by
  refine aw_tree (I1_ok X _) [(true, 49)] [] rfl ?_
  repeat' (first | refine And.intro ?_ ?_ | (refine aImp_e0 ?_; intro _) | (refine aImp_n0 ?_; intro _) | (refine aImp_i ?_; intro _))
  all_goals (try (first | omega | exact bI_01 _ | exact bI_lo _ | exact bI_hi _ | exact bI_hi' _ | exact trivial | exact Or.inl rfl | exact Or.inr rfl | (exfalso; omega)))
  all_goals rfl
theorem c_pf0 {X : AX} (d : Nat) (sb ss : Nat) (T : TyT) (G : TyG) (L : TyL) (O : TyO) (R : TyR) (P : TyP) (C : TyC) (B D : TyB) (S N : TyS) (bm : AC24) (bt : List TyBn) (x : TyBn) (V : DP) (i : Int) (hV : kD V) (hx : 0 ≤ x.2.1 ∧ x.2.1 ≤ 40) (hi : 0 ≤ i ∧ i ≤ dN V) (hR : tR V 0 x 0) : AF X (d + 2) 0 0 27 [rf 17, rf 73, iv i] (CH sb ss T G L O R P C B D S N (MV bm (BH 73 (x :: bt)))) (some (iv (VV V (dN V - i).toNat (fun _ => False) 0 0))) (CH sb ss T G L O R P C B D S N (MV bm (BH 73 (x :: bt)))) := by
  have hn := hV.1
  have hs := slot_b (n := 33) (w := x.2.1) (i := i) (u := 0) (by omega) (by omega) (by omega)
  have hr := hR i 0 hi.1 hi.2 (by omega) (by omega)
  rw [← hr]
  refine aw_tree (I1_ok X _) [(true, 49), (false, 24), (true, 4)] [] rfl ?_
  dsimp only
  repeat' (first | refine And.intro ?_ ?_ | (refine aImp_e0 ?_; intro _) | (refine aImp_n0 ?_; intro _) | (refine aImp_i ?_; intro _))
  all_goals (try (first | omega | exact bI_01 _ | exact bI_lo _ | exact bI_hi _ | exact bI_hi' _ | exact trivial | exact Or.inl rfl | exact Or.inr rfl | (exfalso; omega)))
  all_goals rfl
set_option maxRecDepth 100000 in
theorem c_ft_loop20 {X : AX} (d : Nat) (sb ss : Nat) (T : TyT) (G : TyG) (L : TyL) (O : TyO) (R : TyR) (P : TyP) (C : TyC) (B D : TyB) (S N : TyS) (bm : AC24) (bt : List TyBn) (x : TyBn) (V : DP) (o : Option Nat) {Q : AQ} (hV : kD V) (hP : rP P V) (hx : x.1 = 0 ∧ (0 ≤ x.2.1 ∧ x.2.1 ≤ 40) ∧ x.2.1 = dX V 0 ∧ 0 < dR V)
    (hpf : ∀ (f g h : FN) (i : Int), 0 ≤ i → i < dN V → AF X (d + 6) 0 0 27 [rf 17, .inr (.inr (.inl o)), iv i] (CH sb ss T G L O R P C B D S N (MV bm (BH 73 (bnT x f g h :: bt)))) (some (iv (VV V (dN V - i).toNat (fun _ => False) (0 + 1) 0))) (CH sb ss T G L O R P C B D S N (MV bm (BH 73 (bnT x f g h :: bt)))))
    (hQ : ∀ f g h : FN, tR V 0 (bnT x f g h) 0 → tA V 0 (bnT x f g h) 0 → tH V 0 (bnT x f g h) 0 → Q none (CH sb ss T G L O R P C B D S N (MV bm (BH 73 (bnT x f g h :: bt))))) :
    ∀ (m : Nat) (i : Int) (f g h : FN), i + 1 = m → i < dN V → tR V 0 (bnT x f g h) (i + 1) → tA V 0 (bnT x f g h) (i + 1) → tH V 0 (bnT x f g h) (i + 1) → AW X (d + 7) 0 0 28 25 [rf 17, rf 73, .inr (.inr (.inl o)), iv i] [] (CH sb ss T G L O R P C B D S N (MV bm (BH 73 (bnT x f g h :: bt)))) Q := by
  have hn := hV.1
  intro m
  induction m with
  | zero =>
    intro i f g h hm hi hR hA hH
    have e : i + 1 = 0 := by omega
    rw [e] at hR hA hH
    refine aw_tree (I1_ok X _) [(true, 49), (false, 24), (true, 4)] [25] rfl ?_
    try dsimp only [bnT]
    repeat' (first | refine And.intro ?_ ?_ | (refine aImp_e0 ?_; intro _) | (refine aImp_n0 ?_; intro _) | (refine aImp_i ?_; intro _))
    all_goals (try (first | omega | exact bI_01 _ | exact bI_lo _ | exact bI_hi _ | exact bI_hi' _ | exact trivial | exact Or.inl rfl | exact Or.inr rfl | (exfalso; omega)))
    exact hQ f g h hR hA hH
  | succ m ih =>
    intro i f g h hm hi hR hA hH
    refine aw_tree (I1_ok X _) [(true, 49), (false, 24), (true, 4)] [25] rfl ?_
    try dsimp only [bnT]
    repeat' (first | refine And.intro ?_ ?_ | (refine aImp_e0 ?_; intro _) | (refine aImp_n0 ?_; intro _) | (refine aImp_i ?_; intro _))
    all_goals (try (first | omega | exact bI_01 _ | exact bI_lo _ | exact bI_hi _ | exact bI_hi' _ | exact trivial | exact Or.inl rfl | exact Or.inr rfl | (exfalso; omega)))
    refine aw_cf0 (hpf f g h i (by omega) hi) rfl ?_
    refine aw_tree (I1_ok X _) [(true, 49), (false, 24), (true, 4)] [25] rfl ?_
    try dsimp only [bnT]
    repeat' (first | refine And.intro ?_ ?_ | (refine aImp_e0 ?_; intro _) | (refine aImp_n0 ?_; intro _) | (refine aImp_i ?_; intro _))
    all_goals (try (first | omega | exact bI_01 _ | exact bI_lo _ | exact bI_hi _ | exact bI_hi' _ | exact trivial | exact Or.inl rfl | exact Or.inr rfl | (exfalso; omega)))
    have hH' : ∀ j, i ≤ j → j < dN V → aUp h i (VV V (dN V - i).toNat (fun _ => False) (0 + 1) 0) j = VV V (dN V - j).toNat (fun _ => False) (0 + 1) 0 := by
      intro j j0 j1
      by_cases e : j = i
      · rw [e, aUp_s]
      · rw [aUp_n _ _ e]; exact hH j (by omega) j1
    have hff : ∀ {Q1 : AQ}, (∀ f g : FN, tR V 0 (bnT x f g (aUp h i (VV V (dN V - i).toNat (fun _ => False) (0 + 1) 0))) i → tA V 0 (bnT x f g (aUp h i (VV V (dN V - i).toNat (fun _ => False) (0 + 1) 0))) i → Q1 none (CH sb ss T G L O R P C B D S N (MV bm (BH 73 (bnT x f g (aUp h i (VV V (dN V - i).toNat (fun _ => False) (0 + 1) 0)) :: bt))))) → AW X (d + 6) 0 0 29 0 (aEntry 29 [rf 17, rf 73, iv i]) [] (CH sb ss T G L O R P C B D S N (MV bm (BH 73 (bnT x f g (aUp h i (VV V (dN V - i).toNat (fun _ => False) (0 + 1) 0)) :: bt)))) Q1 := by
      intro Q1 hq
      refine aw_tree (I1_ok X _) [(true, 49), (false, 24), (true, 4)] [2] rfl ?_
      exact c_fg_loop0 d sb ss T G L O R P C B D S N bm bt x V i hV hP hx (by omega) (aUp h i (VV V (dN V - i).toNat (fun _ => False) (0 + 1) 0)) hH' hq (x.2.1 + 1).toNat 0 f g jk jk (by omega) (by omega) hR hA (fun u' a b => by omega) (fun u' a b => by omega)
    refine aw_ck0 (hff (fun f' g' hR' hA' => ?_)) rfl
    refine aw_tree (I1_ok X _) [(true, 49), (false, 24), (true, 4)] [25] rfl ?_
    have goal := ih (i - 1) f' g' (aUp h i (VV V (dN V - i).toNat (fun _ => False) (0 + 1) 0)) (by omega) (by omega)
    rw [show i - 1 + 1 = i from by omega] at goal
    exact goal hR' hA' (fun j j0 j1 => hH' j j0 j1)
set_option maxRecDepth 100000 in
theorem c_ft_loop10 {X : AX} (d : Nat) (sb ss : Nat) (T : TyT) (G : TyG) (L : TyL) (O : TyO) (R : TyR) (P : TyP) (C : TyC) (B D : TyB) (S N : TyS) (bm : AC24) (bt : List TyBn) (x : TyBn) (V : DP) (o : Option Nat) {Q : AQ} (hV : kD V) (hP : rP P V) (hx : x.1 = 0 ∧ (0 ≤ x.2.1 ∧ x.2.1 ≤ 40) ∧ x.2.1 = dX V 0 ∧ 0 < dR V)
    (hpf : ∀ (f g h : FN) (i : Int), 0 ≤ i → i < dN V → AF X (d + 6) 0 0 27 [rf 17, .inr (.inr (.inl o)), iv i] (CH sb ss T G L O R P C B D S N (MV bm (BH 73 (bnT x f g h :: bt)))) (some (iv (VV V (dN V - i).toNat (fun _ => False) (0 + 1) 0))) (CH sb ss T G L O R P C B D S N (MV bm (BH 73 (bnT x f g h :: bt)))))
    (hQ : ∀ f g h : FN, tR V 0 (bnT x f g h) 0 → tA V 0 (bnT x f g h) 0 → tH V 0 (bnT x f g h) 0 → Q none (CH sb ss T G L O R P C B D S N (MV bm (BH 73 (bnT x f g h :: bt))))) (g h : FN) :
    ∀ (m : Nat) (u : Int) (f : FN), u + m = x.2.1 + 1 → 0 ≤ u → (∀ u', 0 ≤ u' → u' < u → f (dN V * (x.2.1 + 1) + u') = 0) → AW X (d + 7) 0 0 28 5 [rf 17, rf 73, .inr (.inr (.inl o)), iv u] [] (CH sb ss T G L O R P C B D S N (MV bm (BH 73 (bnT x f g h :: bt)))) Q := by
  have hn := hV.1
  have p1 := hP.1
  intro m
  induction m with
  | zero =>
    intro u f hm u0 hf
    refine aw_tree (I1_ok X _) [(true, 49), (false, 24), (true, 4)] [5, 25] rfl ?_
    try dsimp only [bnT]
    repeat' (first | refine And.intro ?_ ?_ | (refine aImp_e0 ?_; intro _) | (refine aImp_n0 ?_; intro _) | (refine aImp_i ?_; intro _))
    all_goals (try (first | omega | exact bI_01 _ | exact bI_lo _ | exact bI_hi _ | exact bI_hi' _ | exact trivial | exact Or.inl rfl | exact Or.inr rfl | (exfalso; omega)))
    have goal := c_ft_loop20 (X := X) (Q := Q) d sb ss T G L O R P C B D S N bm bt x V o hV hP hx hpf hQ (dN V).toNat (dN V - 1) f g h (by omega) (by omega) (fun j w' j0 j1 w0 w1 => by
      have e : j = dN V := by omega
      subst e
      have e2 : (dN V - dN V).toNat = 0 := by omega
      rw [e2, VV]
      exact hf w' w0 (by (try dsimp only [bnT] at w1); omega)) (fun j p j0 j1 => by omega) (fun j j0 j1 => by omega)
    rw [← p1] at goal
    exact goal
  | succ m ih =>
    intro u f hm u0 hf
    have hs := slot_b (n := 33) (w := x.2.1) (i := dN V) (u := u) (by omega) (by omega) (by omega)
    rw [← p1] at hs
    refine aw_tree (I1_ok X _) [(true, 49), (false, 24), (true, 4)] [5, 25] rfl ?_
    try dsimp only [bnT]
    repeat' (first | refine And.intro ?_ ?_ | (refine aImp_e0 ?_; intro _) | (refine aImp_n0 ?_; intro _) | (refine aImp_i ?_; intro _))
    all_goals (try (first | omega | exact bI_01 _ | exact bI_lo _ | exact bI_hi _ | exact bI_hi' _ | exact trivial | exact Or.inl rfl | exact Or.inr rfl | (exfalso; omega)))
    refine ih (u + 1) (aUp f (P.2.2.2.2.2.2.2.2.1 * (x.2.1 + 1) + u) 0) (by omega) (by omega) (fun u' a b => ?_)
    rw [p1]
    by_cases e : u' = u
    · rw [e, aUp_s]
    · rw [aUp_n _ _ (by omega)]; exact hf u' a (by omega)
theorem c_fillTables0 {X : AX} (d : Nat) (sb ss : Nat) (T : TyT) (G : TyG) (L : TyL) (O : TyO) (R : TyR) (P : TyP) (C : TyC) (B D : TyB) (S N : TyS) (bm : AC24) (bt : List TyBn) (x : TyBn) (V : DP) (o : Option Nat) {Q : AQ} (hV : kD V) (hP : rP P V) (hx : x.1 = 0 ∧ (0 ≤ x.2.1 ∧ x.2.1 ≤ 40) ∧ x.2.1 = dX V 0 ∧ 0 < dR V)
    (hpf : ∀ (f g h : FN) (i : Int), 0 ≤ i → i < dN V → AF X (d + 6) 0 0 27 [rf 17, .inr (.inr (.inl o)), iv i] (CH sb ss T G L O R P C B D S N (MV bm (BH 73 (bnT x f g h :: bt)))) (some (iv (VV V (dN V - i).toNat (fun _ => False) (0 + 1) 0))) (CH sb ss T G L O R P C B D S N (MV bm (BH 73 (bnT x f g h :: bt)))))
    (hQ : ∀ f g h : FN, tR V 0 (bnT x f g h) 0 → tA V 0 (bnT x f g h) 0 → tH V 0 (bnT x f g h) 0 → Q none (CH sb ss T G L O R P C B D S N (MV bm (BH 73 (bnT x f g h :: bt))))) :
    AW X (d + 7) 0 0 28 0 (aEntry 28 [rf 17, rf 73, .inr (.inr (.inl o))]) [] (CH sb ss T G L O R P C B D S N (MV bm (BH 73 (x :: bt)))) Q := by
  refine aw_tree (I1_ok X _) [(true, 49), (false, 24), (true, 4)] [5] rfl ?_
  exact c_ft_loop10 d sb ss T G L O R P C B D S N bm bt x V o hV hP hx hpf hQ x.2.2.2.2.2.1 x.2.2.2.2.2.2 (x.2.1 + 1).toNat 0 x.2.2.2.2.1 (by omega) (by omega) (fun u' a b => by omega)
theorem c_pf1 {X : AX} (d : Nat) (sb ss : Nat) (T : TyT) (G : TyG) (L : TyL) (O : TyO) (R : TyR) (P : TyP) (C : TyC) (B D : TyB) (S N : TyS) (bm : AC24) (b0 : TyBn) (bt : List TyBn) (x : TyBn) (V : DP) (i : Int) (hV : kD V) (hx : 0 ≤ x.2.1 ∧ x.2.1 ≤ 40) (hi : 0 ≤ i ∧ i ≤ dN V) (hR : tR V 1 x 0) : AF X (d + 2) 0 0 27 [rf 17, rf 77, iv i] (CH sb ss T G L O R P C B D S N (MV bm (BH 73 (b0 :: x :: bt)))) (some (iv (VV V (dN V - i).toNat (fun _ => False) 1 0))) (CH sb ss T G L O R P C B D S N (MV bm (BH 73 (b0 :: x :: bt)))) := by
  have hn := hV.1
  have hs := slot_b (n := 33) (w := x.2.1) (i := i) (u := 0) (by omega) (by omega) (by omega)
  have hr := hR i 0 hi.1 hi.2 (by omega) (by omega)
  rw [← hr]
  refine aw_tree (I1_ok X _) [(true, 49), (false, 24), (true, 8)] [] rfl ?_
  dsimp only
  repeat' (first | refine And.intro ?_ ?_ | (refine aImp_e0 ?_; intro _) | (refine aImp_n0 ?_; intro _) | (refine aImp_i ?_; intro _))
  all_goals (try (first | omega | exact bI_01 _ | exact bI_lo _ | exact bI_hi _ | exact bI_hi' _ | exact trivial | exact Or.inl rfl | exact Or.inr rfl | (exfalso; omega)))
  all_goals rfl
set_option maxRecDepth 100000 in
theorem c_ft_loop21 {X : AX} (d : Nat) (sb ss : Nat) (T : TyT) (G : TyG) (L : TyL) (O : TyO) (R : TyR) (P : TyP) (C : TyC) (B D : TyB) (S N : TyS) (bm : AC24) (b0 : TyBn) (bt : List TyBn) (x : TyBn) (V : DP) (o : Option Nat) {Q : AQ} (hV : kD V) (hP : rP P V) (hx : x.1 = 1 ∧ (0 ≤ x.2.1 ∧ x.2.1 ≤ 40) ∧ x.2.1 = dX V 1 ∧ 1 < dR V)
    (hpf : ∀ (f g h : FN) (i : Int), 0 ≤ i → i < dN V → AF X (d + 6) 0 0 27 [rf 17, .inr (.inr (.inl o)), iv i] (CH sb ss T G L O R P C B D S N (MV bm (BH 73 (b0 :: bnT x f g h :: bt)))) (some (iv (VV V (dN V - i).toNat (fun _ => False) (1 + 1) 0))) (CH sb ss T G L O R P C B D S N (MV bm (BH 73 (b0 :: bnT x f g h :: bt)))))
    (hQ : ∀ f g h : FN, tR V 1 (bnT x f g h) 0 → tA V 1 (bnT x f g h) 0 → tH V 1 (bnT x f g h) 0 → Q none (CH sb ss T G L O R P C B D S N (MV bm (BH 73 (b0 :: bnT x f g h :: bt))))) :
    ∀ (m : Nat) (i : Int) (f g h : FN), i + 1 = m → i < dN V → tR V 1 (bnT x f g h) (i + 1) → tA V 1 (bnT x f g h) (i + 1) → tH V 1 (bnT x f g h) (i + 1) → AW X (d + 7) 0 0 28 25 [rf 17, rf 77, .inr (.inr (.inl o)), iv i] [] (CH sb ss T G L O R P C B D S N (MV bm (BH 73 (b0 :: bnT x f g h :: bt)))) Q := by
  have hn := hV.1
  intro m
  induction m with
  | zero =>
    intro i f g h hm hi hR hA hH
    have e : i + 1 = 0 := by omega
    rw [e] at hR hA hH
    refine aw_tree (I1_ok X _) [(true, 49), (false, 24), (true, 8)] [25] rfl ?_
    try dsimp only [bnT]
    repeat' (first | refine And.intro ?_ ?_ | (refine aImp_e0 ?_; intro _) | (refine aImp_n0 ?_; intro _) | (refine aImp_i ?_; intro _))
    all_goals (try (first | omega | exact bI_01 _ | exact bI_lo _ | exact bI_hi _ | exact bI_hi' _ | exact trivial | exact Or.inl rfl | exact Or.inr rfl | (exfalso; omega)))
    exact hQ f g h hR hA hH
  | succ m ih =>
    intro i f g h hm hi hR hA hH
    refine aw_tree (I1_ok X _) [(true, 49), (false, 24), (true, 8)] [25] rfl ?_
    try dsimp only [bnT]
    repeat' (first | refine And.intro ?_ ?_ | (refine aImp_e0 ?_; intro _) | (refine aImp_n0 ?_; intro _) | (refine aImp_i ?_; intro _))
    all_goals (try (first | omega | exact bI_01 _ | exact bI_lo _ | exact bI_hi _ | exact bI_hi' _ | exact trivial | exact Or.inl rfl | exact Or.inr rfl | (exfalso; omega)))
    refine aw_cf0 (hpf f g h i (by omega) hi) rfl ?_
    refine aw_tree (I1_ok X _) [(true, 49), (false, 24), (true, 8)] [25] rfl ?_
    try dsimp only [bnT]
    repeat' (first | refine And.intro ?_ ?_ | (refine aImp_e0 ?_; intro _) | (refine aImp_n0 ?_; intro _) | (refine aImp_i ?_; intro _))
    all_goals (try (first | omega | exact bI_01 _ | exact bI_lo _ | exact bI_hi _ | exact bI_hi' _ | exact trivial | exact Or.inl rfl | exact Or.inr rfl | (exfalso; omega)))
    have hH' : ∀ j, i ≤ j → j < dN V → aUp h i (VV V (dN V - i).toNat (fun _ => False) (1 + 1) 0) j = VV V (dN V - j).toNat (fun _ => False) (1 + 1) 0 := by
      intro j j0 j1
      by_cases e : j = i
      · rw [e, aUp_s]
      · rw [aUp_n _ _ e]; exact hH j (by omega) j1
    have hff : ∀ {Q1 : AQ}, (∀ f g : FN, tR V 1 (bnT x f g (aUp h i (VV V (dN V - i).toNat (fun _ => False) (1 + 1) 0))) i → tA V 1 (bnT x f g (aUp h i (VV V (dN V - i).toNat (fun _ => False) (1 + 1) 0))) i → Q1 none (CH sb ss T G L O R P C B D S N (MV bm (BH 73 (b0 :: bnT x f g (aUp h i (VV V (dN V - i).toNat (fun _ => False) (1 + 1) 0)) :: bt))))) → AW X (d + 6) 0 0 29 0 (aEntry 29 [rf 17, rf 77, iv i]) [] (CH sb ss T G L O R P C B D S N (MV bm (BH 73 (b0 :: bnT x f g (aUp h i (VV V (dN V - i).toNat (fun _ => False) (1 + 1) 0)) :: bt)))) Q1 := by
      intro Q1 hq
      refine aw_tree (I1_ok X _) [(true, 49), (false, 24), (true, 8)] [2] rfl ?_
      exact c_fg_loop1 d sb ss T G L O R P C B D S N bm b0 bt x V i hV hP hx (by omega) (aUp h i (VV V (dN V - i).toNat (fun _ => False) (1 + 1) 0)) hH' hq (x.2.1 + 1).toNat 0 f g jk jk (by omega) (by omega) hR hA (fun u' a b => by omega) (fun u' a b => by omega)
    refine aw_ck0 (hff (fun f' g' hR' hA' => ?_)) rfl
    refine aw_tree (I1_ok X _) [(true, 49), (false, 24), (true, 8)] [25] rfl ?_
    have goal := ih (i - 1) f' g' (aUp h i (VV V (dN V - i).toNat (fun _ => False) (1 + 1) 0)) (by omega) (by omega)
    rw [show i - 1 + 1 = i from by omega] at goal
    exact goal hR' hA' (fun j j0 j1 => hH' j j0 j1)
set_option maxRecDepth 100000 in
theorem c_ft_loop11 {X : AX} (d : Nat) (sb ss : Nat) (T : TyT) (G : TyG) (L : TyL) (O : TyO) (R : TyR) (P : TyP) (C : TyC) (B D : TyB) (S N : TyS) (bm : AC24) (b0 : TyBn) (bt : List TyBn) (x : TyBn) (V : DP) (o : Option Nat) {Q : AQ} (hV : kD V) (hP : rP P V) (hx : x.1 = 1 ∧ (0 ≤ x.2.1 ∧ x.2.1 ≤ 40) ∧ x.2.1 = dX V 1 ∧ 1 < dR V)
    (hpf : ∀ (f g h : FN) (i : Int), 0 ≤ i → i < dN V → AF X (d + 6) 0 0 27 [rf 17, .inr (.inr (.inl o)), iv i] (CH sb ss T G L O R P C B D S N (MV bm (BH 73 (b0 :: bnT x f g h :: bt)))) (some (iv (VV V (dN V - i).toNat (fun _ => False) (1 + 1) 0))) (CH sb ss T G L O R P C B D S N (MV bm (BH 73 (b0 :: bnT x f g h :: bt)))))
    (hQ : ∀ f g h : FN, tR V 1 (bnT x f g h) 0 → tA V 1 (bnT x f g h) 0 → tH V 1 (bnT x f g h) 0 → Q none (CH sb ss T G L O R P C B D S N (MV bm (BH 73 (b0 :: bnT x f g h :: bt))))) (g h : FN) :
    ∀ (m : Nat) (u : Int) (f : FN), u + m = x.2.1 + 1 → 0 ≤ u → (∀ u', 0 ≤ u' → u' < u → f (dN V * (x.2.1 + 1) + u') = 0) → AW X (d + 7) 0 0 28 5 [rf 17, rf 77, .inr (.inr (.inl o)), iv u] [] (CH sb ss T G L O R P C B D S N (MV bm (BH 73 (b0 :: bnT x f g h :: bt)))) Q := by
  have hn := hV.1
  have p1 := hP.1
  intro m
  induction m with
  | zero =>
    intro u f hm u0 hf
    refine aw_tree (I1_ok X _) [(true, 49), (false, 24), (true, 8)] [5, 25] rfl ?_
    try dsimp only [bnT]
    repeat' (first | refine And.intro ?_ ?_ | (refine aImp_e0 ?_; intro _) | (refine aImp_n0 ?_; intro _) | (refine aImp_i ?_; intro _))
    all_goals (try (first | omega | exact bI_01 _ | exact bI_lo _ | exact bI_hi _ | exact bI_hi' _ | exact trivial | exact Or.inl rfl | exact Or.inr rfl | (exfalso; omega)))
    have goal := c_ft_loop21 (X := X) (Q := Q) d sb ss T G L O R P C B D S N bm b0 bt x V o hV hP hx hpf hQ (dN V).toNat (dN V - 1) f g h (by omega) (by omega) (fun j w' j0 j1 w0 w1 => by
      have e : j = dN V := by omega
      subst e
      have e2 : (dN V - dN V).toNat = 0 := by omega
      rw [e2, VV]
      exact hf w' w0 (by (try dsimp only [bnT] at w1); omega)) (fun j p j0 j1 => by omega) (fun j j0 j1 => by omega)
    rw [← p1] at goal
    exact goal
  | succ m ih =>
    intro u f hm u0 hf
    have hs := slot_b (n := 33) (w := x.2.1) (i := dN V) (u := u) (by omega) (by omega) (by omega)
    rw [← p1] at hs
    refine aw_tree (I1_ok X _) [(true, 49), (false, 24), (true, 8)] [5, 25] rfl ?_
    try dsimp only [bnT]
    repeat' (first | refine And.intro ?_ ?_ | (refine aImp_e0 ?_; intro _) | (refine aImp_n0 ?_; intro _) | (refine aImp_i ?_; intro _))
    all_goals (try (first | omega | exact bI_01 _ | exact bI_lo _ | exact bI_hi _ | exact bI_hi' _ | exact trivial | exact Or.inl rfl | exact Or.inr rfl | (exfalso; omega)))
    refine ih (u + 1) (aUp f (P.2.2.2.2.2.2.2.2.1 * (x.2.1 + 1) + u) 0) (by omega) (by omega) (fun u' a b => ?_)
    rw [p1]
    by_cases e : u' = u
    · rw [e, aUp_s]
    · rw [aUp_n _ _ (by omega)]; exact hf u' a (by omega)
theorem c_fillTables1 {X : AX} (d : Nat) (sb ss : Nat) (T : TyT) (G : TyG) (L : TyL) (O : TyO) (R : TyR) (P : TyP) (C : TyC) (B D : TyB) (S N : TyS) (bm : AC24) (b0 : TyBn) (bt : List TyBn) (x : TyBn) (V : DP) (o : Option Nat) {Q : AQ} (hV : kD V) (hP : rP P V) (hx : x.1 = 1 ∧ (0 ≤ x.2.1 ∧ x.2.1 ≤ 40) ∧ x.2.1 = dX V 1 ∧ 1 < dR V)
    (hpf : ∀ (f g h : FN) (i : Int), 0 ≤ i → i < dN V → AF X (d + 6) 0 0 27 [rf 17, .inr (.inr (.inl o)), iv i] (CH sb ss T G L O R P C B D S N (MV bm (BH 73 (b0 :: bnT x f g h :: bt)))) (some (iv (VV V (dN V - i).toNat (fun _ => False) (1 + 1) 0))) (CH sb ss T G L O R P C B D S N (MV bm (BH 73 (b0 :: bnT x f g h :: bt)))))
    (hQ : ∀ f g h : FN, tR V 1 (bnT x f g h) 0 → tA V 1 (bnT x f g h) 0 → tH V 1 (bnT x f g h) 0 → Q none (CH sb ss T G L O R P C B D S N (MV bm (BH 73 (b0 :: bnT x f g h :: bt))))) :
    AW X (d + 7) 0 0 28 0 (aEntry 28 [rf 17, rf 77, .inr (.inr (.inl o))]) [] (CH sb ss T G L O R P C B D S N (MV bm (BH 73 (b0 :: x :: bt)))) Q := by
  refine aw_tree (I1_ok X _) [(true, 49), (false, 24), (true, 8)] [5] rfl ?_
  exact c_ft_loop11 d sb ss T G L O R P C B D S N bm b0 bt x V o hV hP hx hpf hQ x.2.2.2.2.2.1 x.2.2.2.2.2.2 (x.2.1 + 1).toNat 0 x.2.2.2.2.1 (by omega) (by omega) (fun u' a b => by omega)
theorem c_pf2 {X : AX} (d : Nat) (sb ss : Nat) (T : TyT) (G : TyG) (L : TyL) (O : TyO) (R : TyR) (P : TyP) (C : TyC) (B D : TyB) (S N : TyS) (bm : AC24) (b0 b1 : TyBn) (bt : List TyBn) (x : TyBn) (V : DP) (i : Int) (hV : kD V) (hx : 0 ≤ x.2.1 ∧ x.2.1 ≤ 40) (hi : 0 ≤ i ∧ i ≤ dN V) (hR : tR V 2 x 0) : AF X (d + 2) 0 0 27 [rf 17, rf 81, iv i] (CH sb ss T G L O R P C B D S N (MV bm (BH 73 (b0 :: b1 :: x :: bt)))) (some (iv (VV V (dN V - i).toNat (fun _ => False) 2 0))) (CH sb ss T G L O R P C B D S N (MV bm (BH 73 (b0 :: b1 :: x :: bt)))) := by
  have hn := hV.1
  have hs := slot_b (n := 33) (w := x.2.1) (i := i) (u := 0) (by omega) (by omega) (by omega)
  have hr := hR i 0 hi.1 hi.2 (by omega) (by omega)
  rw [← hr]
  refine aw_tree (I1_ok X _) [(true, 49), (false, 24), (true, 12)] [] rfl ?_
  dsimp only
  repeat' (first | refine And.intro ?_ ?_ | (refine aImp_e0 ?_; intro _) | (refine aImp_n0 ?_; intro _) | (refine aImp_i ?_; intro _))
  all_goals (try (first | omega | exact bI_01 _ | exact bI_lo _ | exact bI_hi _ | exact bI_hi' _ | exact trivial | exact Or.inl rfl | exact Or.inr rfl | (exfalso; omega)))
  all_goals rfl
set_option maxRecDepth 100000 in
theorem c_ft_loop22 {X : AX} (d : Nat) (sb ss : Nat) (T : TyT) (G : TyG) (L : TyL) (O : TyO) (R : TyR) (P : TyP) (C : TyC) (B D : TyB) (S N : TyS) (bm : AC24) (b0 b1 : TyBn) (bt : List TyBn) (x : TyBn) (V : DP) (o : Option Nat) {Q : AQ} (hV : kD V) (hP : rP P V) (hx : x.1 = 2 ∧ (0 ≤ x.2.1 ∧ x.2.1 ≤ 40) ∧ x.2.1 = dX V 2 ∧ 2 < dR V)
    (hpf : ∀ (f g h : FN) (i : Int), 0 ≤ i → i < dN V → AF X (d + 6) 0 0 27 [rf 17, .inr (.inr (.inl o)), iv i] (CH sb ss T G L O R P C B D S N (MV bm (BH 73 (b0 :: b1 :: bnT x f g h :: bt)))) (some (iv (VV V (dN V - i).toNat (fun _ => False) (2 + 1) 0))) (CH sb ss T G L O R P C B D S N (MV bm (BH 73 (b0 :: b1 :: bnT x f g h :: bt)))))
    (hQ : ∀ f g h : FN, tR V 2 (bnT x f g h) 0 → tA V 2 (bnT x f g h) 0 → tH V 2 (bnT x f g h) 0 → Q none (CH sb ss T G L O R P C B D S N (MV bm (BH 73 (b0 :: b1 :: bnT x f g h :: bt))))) :
    ∀ (m : Nat) (i : Int) (f g h : FN), i + 1 = m → i < dN V → tR V 2 (bnT x f g h) (i + 1) → tA V 2 (bnT x f g h) (i + 1) → tH V 2 (bnT x f g h) (i + 1) → AW X (d + 7) 0 0 28 25 [rf 17, rf 81, .inr (.inr (.inl o)), iv i] [] (CH sb ss T G L O R P C B D S N (MV bm (BH 73 (b0 :: b1 :: bnT x f g h :: bt)))) Q := by
  have hn := hV.1
  intro m
  induction m with
  | zero =>
    intro i f g h hm hi hR hA hH
    have e : i + 1 = 0 := by omega
    rw [e] at hR hA hH
    refine aw_tree (I1_ok X _) [(true, 49), (false, 24), (true, 12)] [25] rfl ?_
    try dsimp only [bnT]
    repeat' (first | refine And.intro ?_ ?_ | (refine aImp_e0 ?_; intro _) | (refine aImp_n0 ?_; intro _) | (refine aImp_i ?_; intro _))
    all_goals (try (first | omega | exact bI_01 _ | exact bI_lo _ | exact bI_hi _ | exact bI_hi' _ | exact trivial | exact Or.inl rfl | exact Or.inr rfl | (exfalso; omega)))
    exact hQ f g h hR hA hH
  | succ m ih =>
    intro i f g h hm hi hR hA hH
    refine aw_tree (I1_ok X _) [(true, 49), (false, 24), (true, 12)] [25] rfl ?_
    try dsimp only [bnT]
    repeat' (first | refine And.intro ?_ ?_ | (refine aImp_e0 ?_; intro _) | (refine aImp_n0 ?_; intro _) | (refine aImp_i ?_; intro _))
    all_goals (try (first | omega | exact bI_01 _ | exact bI_lo _ | exact bI_hi _ | exact bI_hi' _ | exact trivial | exact Or.inl rfl | exact Or.inr rfl | (exfalso; omega)))
    refine aw_cf0 (hpf f g h i (by omega) hi) rfl ?_
    refine aw_tree (I1_ok X _) [(true, 49), (false, 24), (true, 12)] [25] rfl ?_
    try dsimp only [bnT]
    repeat' (first | refine And.intro ?_ ?_ | (refine aImp_e0 ?_; intro _) | (refine aImp_n0 ?_; intro _) | (refine aImp_i ?_; intro _))
    all_goals (try (first | omega | exact bI_01 _ | exact bI_lo _ | exact bI_hi _ | exact bI_hi' _ | exact trivial | exact Or.inl rfl | exact Or.inr rfl | (exfalso; omega)))
    have hH' : ∀ j, i ≤ j → j < dN V → aUp h i (VV V (dN V - i).toNat (fun _ => False) (2 + 1) 0) j = VV V (dN V - j).toNat (fun _ => False) (2 + 1) 0 := by
      intro j j0 j1
      by_cases e : j = i
      · rw [e, aUp_s]
      · rw [aUp_n _ _ e]; exact hH j (by omega) j1
    have hff : ∀ {Q1 : AQ}, (∀ f g : FN, tR V 2 (bnT x f g (aUp h i (VV V (dN V - i).toNat (fun _ => False) (2 + 1) 0))) i → tA V 2 (bnT x f g (aUp h i (VV V (dN V - i).toNat (fun _ => False) (2 + 1) 0))) i → Q1 none (CH sb ss T G L O R P C B D S N (MV bm (BH 73 (b0 :: b1 :: bnT x f g (aUp h i (VV V (dN V - i).toNat (fun _ => False) (2 + 1) 0)) :: bt))))) → AW X (d + 6) 0 0 29 0 (aEntry 29 [rf 17, rf 81, iv i]) [] (CH sb ss T G L O R P C B D S N (MV bm (BH 73 (b0 :: b1 :: bnT x f g (aUp h i (VV V (dN V - i).toNat (fun _ => False) (2 + 1) 0)) :: bt)))) Q1 := by
      intro Q1 hq
      refine aw_tree (I1_ok X _) [(true, 49), (false, 24), (true, 12)] [2] rfl ?_
      exact c_fg_loop2 d sb ss T G L O R P C B D S N bm b0 b1 bt x V i hV hP hx (by omega) (aUp h i (VV V (dN V - i).toNat (fun _ => False) (2 + 1) 0)) hH' hq (x.2.1 + 1).toNat 0 f g jk jk (by omega) (by omega) hR hA (fun u' a b => by omega) (fun u' a b => by omega)
    refine aw_ck0 (hff (fun f' g' hR' hA' => ?_)) rfl
    refine aw_tree (I1_ok X _) [(true, 49), (false, 24), (true, 12)] [25] rfl ?_
    have goal := ih (i - 1) f' g' (aUp h i (VV V (dN V - i).toNat (fun _ => False) (2 + 1) 0)) (by omega) (by omega)
    rw [show i - 1 + 1 = i from by omega] at goal
    exact goal hR' hA' (fun j j0 j1 => hH' j j0 j1)
set_option maxRecDepth 100000 in
theorem c_ft_loop12 {X : AX} (d : Nat) (sb ss : Nat) (T : TyT) (G : TyG) (L : TyL) (O : TyO) (R : TyR) (P : TyP) (C : TyC) (B D : TyB) (S N : TyS) (bm : AC24) (b0 b1 : TyBn) (bt : List TyBn) (x : TyBn) (V : DP) (o : Option Nat) {Q : AQ} (hV : kD V) (hP : rP P V) (hx : x.1 = 2 ∧ (0 ≤ x.2.1 ∧ x.2.1 ≤ 40) ∧ x.2.1 = dX V 2 ∧ 2 < dR V)
    (hpf : ∀ (f g h : FN) (i : Int), 0 ≤ i → i < dN V → AF X (d + 6) 0 0 27 [rf 17, .inr (.inr (.inl o)), iv i] (CH sb ss T G L O R P C B D S N (MV bm (BH 73 (b0 :: b1 :: bnT x f g h :: bt)))) (some (iv (VV V (dN V - i).toNat (fun _ => False) (2 + 1) 0))) (CH sb ss T G L O R P C B D S N (MV bm (BH 73 (b0 :: b1 :: bnT x f g h :: bt)))))
    (hQ : ∀ f g h : FN, tR V 2 (bnT x f g h) 0 → tA V 2 (bnT x f g h) 0 → tH V 2 (bnT x f g h) 0 → Q none (CH sb ss T G L O R P C B D S N (MV bm (BH 73 (b0 :: b1 :: bnT x f g h :: bt))))) (g h : FN) :
    ∀ (m : Nat) (u : Int) (f : FN), u + m = x.2.1 + 1 → 0 ≤ u → (∀ u', 0 ≤ u' → u' < u → f (dN V * (x.2.1 + 1) + u') = 0) → AW X (d + 7) 0 0 28 5 [rf 17, rf 81, .inr (.inr (.inl o)), iv u] [] (CH sb ss T G L O R P C B D S N (MV bm (BH 73 (b0 :: b1 :: bnT x f g h :: bt)))) Q := by
  have hn := hV.1
  have p1 := hP.1
  intro m
  induction m with
  | zero =>
    intro u f hm u0 hf
    refine aw_tree (I1_ok X _) [(true, 49), (false, 24), (true, 12)] [5, 25] rfl ?_
    try dsimp only [bnT]
    repeat' (first | refine And.intro ?_ ?_ | (refine aImp_e0 ?_; intro _) | (refine aImp_n0 ?_; intro _) | (refine aImp_i ?_; intro _))
    all_goals (try (first | omega | exact bI_01 _ | exact bI_lo _ | exact bI_hi _ | exact bI_hi' _ | exact trivial | exact Or.inl rfl | exact Or.inr rfl | (exfalso; omega)))
    have goal := c_ft_loop22 (X := X) (Q := Q) d sb ss T G L O R P C B D S N bm b0 b1 bt x V o hV hP hx hpf hQ (dN V).toNat (dN V - 1) f g h (by omega) (by omega) (fun j w' j0 j1 w0 w1 => by
      have e : j = dN V := by omega
      subst e
      have e2 : (dN V - dN V).toNat = 0 := by omega
      rw [e2, VV]
      exact hf w' w0 (by (try dsimp only [bnT] at w1); omega)) (fun j p j0 j1 => by omega) (fun j j0 j1 => by omega)
    rw [← p1] at goal
    exact goal
  | succ m ih =>
    intro u f hm u0 hf
    have hs := slot_b (n := 33) (w := x.2.1) (i := dN V) (u := u) (by omega) (by omega) (by omega)
    rw [← p1] at hs
    refine aw_tree (I1_ok X _) [(true, 49), (false, 24), (true, 12)] [5, 25] rfl ?_
    try dsimp only [bnT]
    repeat' (first | refine And.intro ?_ ?_ | (refine aImp_e0 ?_; intro _) | (refine aImp_n0 ?_; intro _) | (refine aImp_i ?_; intro _))
    all_goals (try (first | omega | exact bI_01 _ | exact bI_lo _ | exact bI_hi _ | exact bI_hi' _ | exact trivial | exact Or.inl rfl | exact Or.inr rfl | (exfalso; omega)))
    refine ih (u + 1) (aUp f (P.2.2.2.2.2.2.2.2.1 * (x.2.1 + 1) + u) 0) (by omega) (by omega) (fun u' a b => ?_)
    rw [p1]
    by_cases e : u' = u
    · rw [e, aUp_s]
    · rw [aUp_n _ _ (by omega)]; exact hf u' a (by omega)
theorem c_fillTables2 {X : AX} (d : Nat) (sb ss : Nat) (T : TyT) (G : TyG) (L : TyL) (O : TyO) (R : TyR) (P : TyP) (C : TyC) (B D : TyB) (S N : TyS) (bm : AC24) (b0 b1 : TyBn) (bt : List TyBn) (x : TyBn) (V : DP) (o : Option Nat) {Q : AQ} (hV : kD V) (hP : rP P V) (hx : x.1 = 2 ∧ (0 ≤ x.2.1 ∧ x.2.1 ≤ 40) ∧ x.2.1 = dX V 2 ∧ 2 < dR V)
    (hpf : ∀ (f g h : FN) (i : Int), 0 ≤ i → i < dN V → AF X (d + 6) 0 0 27 [rf 17, .inr (.inr (.inl o)), iv i] (CH sb ss T G L O R P C B D S N (MV bm (BH 73 (b0 :: b1 :: bnT x f g h :: bt)))) (some (iv (VV V (dN V - i).toNat (fun _ => False) (2 + 1) 0))) (CH sb ss T G L O R P C B D S N (MV bm (BH 73 (b0 :: b1 :: bnT x f g h :: bt)))))
    (hQ : ∀ f g h : FN, tR V 2 (bnT x f g h) 0 → tA V 2 (bnT x f g h) 0 → tH V 2 (bnT x f g h) 0 → Q none (CH sb ss T G L O R P C B D S N (MV bm (BH 73 (b0 :: b1 :: bnT x f g h :: bt))))) :
    AW X (d + 7) 0 0 28 0 (aEntry 28 [rf 17, rf 81, .inr (.inr (.inl o))]) [] (CH sb ss T G L O R P C B D S N (MV bm (BH 73 (b0 :: b1 :: x :: bt)))) Q := by
  refine aw_tree (I1_ok X _) [(true, 49), (false, 24), (true, 12)] [5] rfl ?_
  exact c_ft_loop12 d sb ss T G L O R P C B D S N bm b0 b1 bt x V o hV hP hx hpf hQ x.2.2.2.2.2.1 x.2.2.2.2.2.2 (x.2.1 + 1).toNat 0 x.2.2.2.2.1 (by omega) (by omega) (fun u' a b => by omega)
theorem c_pf3 {X : AX} (d : Nat) (sb ss : Nat) (T : TyT) (G : TyG) (L : TyL) (O : TyO) (R : TyR) (P : TyP) (C : TyC) (B D : TyB) (S N : TyS) (bm : AC24) (b0 b1 b2 : TyBn) (bt : List TyBn) (x : TyBn) (V : DP) (i : Int) (hV : kD V) (hx : 0 ≤ x.2.1 ∧ x.2.1 ≤ 40) (hi : 0 ≤ i ∧ i ≤ dN V) (hR : tR V 3 x 0) : AF X (d + 2) 0 0 27 [rf 17, rf 85, iv i] (CH sb ss T G L O R P C B D S N (MV bm (BH 73 (b0 :: b1 :: b2 :: x :: bt)))) (some (iv (VV V (dN V - i).toNat (fun _ => False) 3 0))) (CH sb ss T G L O R P C B D S N (MV bm (BH 73 (b0 :: b1 :: b2 :: x :: bt)))) := by
  have hn := hV.1
  have hs := slot_b (n := 33) (w := x.2.1) (i := i) (u := 0) (by omega) (by omega) (by omega)
  have hr := hR i 0 hi.1 hi.2 (by omega) (by omega)
  rw [← hr]
  refine aw_tree (I1_ok X _) [(true, 49), (false, 24), (true, 16)] [] rfl ?_
  dsimp only
  repeat' (first | refine And.intro ?_ ?_ | (refine aImp_e0 ?_; intro _) | (refine aImp_n0 ?_; intro _) | (refine aImp_i ?_; intro _))
  all_goals (try (first | omega | exact bI_01 _ | exact bI_lo _ | exact bI_hi _ | exact bI_hi' _ | exact trivial | exact Or.inl rfl | exact Or.inr rfl | (exfalso; omega)))
  all_goals rfl
set_option maxRecDepth 100000 in
theorem c_ft_loop23 {X : AX} (d : Nat) (sb ss : Nat) (T : TyT) (G : TyG) (L : TyL) (O : TyO) (R : TyR) (P : TyP) (C : TyC) (B D : TyB) (S N : TyS) (bm : AC24) (b0 b1 b2 : TyBn) (bt : List TyBn) (x : TyBn) (V : DP) (o : Option Nat) {Q : AQ} (hV : kD V) (hP : rP P V) (hx : x.1 = 3 ∧ (0 ≤ x.2.1 ∧ x.2.1 ≤ 40) ∧ x.2.1 = dX V 3 ∧ 3 < dR V)
    (hpf : ∀ (f g h : FN) (i : Int), 0 ≤ i → i < dN V → AF X (d + 6) 0 0 27 [rf 17, .inr (.inr (.inl o)), iv i] (CH sb ss T G L O R P C B D S N (MV bm (BH 73 (b0 :: b1 :: b2 :: bnT x f g h :: bt)))) (some (iv (VV V (dN V - i).toNat (fun _ => False) (3 + 1) 0))) (CH sb ss T G L O R P C B D S N (MV bm (BH 73 (b0 :: b1 :: b2 :: bnT x f g h :: bt)))))
    (hQ : ∀ f g h : FN, tR V 3 (bnT x f g h) 0 → tA V 3 (bnT x f g h) 0 → tH V 3 (bnT x f g h) 0 → Q none (CH sb ss T G L O R P C B D S N (MV bm (BH 73 (b0 :: b1 :: b2 :: bnT x f g h :: bt))))) :
    ∀ (m : Nat) (i : Int) (f g h : FN), i + 1 = m → i < dN V → tR V 3 (bnT x f g h) (i + 1) → tA V 3 (bnT x f g h) (i + 1) → tH V 3 (bnT x f g h) (i + 1) → AW X (d + 7) 0 0 28 25 [rf 17, rf 85, .inr (.inr (.inl o)), iv i] [] (CH sb ss T G L O R P C B D S N (MV bm (BH 73 (b0 :: b1 :: b2 :: bnT x f g h :: bt)))) Q := by
  have hn := hV.1
  intro m
  induction m with
  | zero =>
    intro i f g h hm hi hR hA hH
    have e : i + 1 = 0 := by omega
    rw [e] at hR hA hH
    refine aw_tree (I1_ok X _) [(true, 49), (false, 24), (true, 16)] [25] rfl ?_
    try dsimp only [bnT]
    repeat' (first | refine And.intro ?_ ?_ | (refine aImp_e0 ?_; intro _) | (refine aImp_n0 ?_; intro _) | (refine aImp_i ?_; intro _))
    all_goals (try (first | omega | exact bI_01 _ | exact bI_lo _ | exact bI_hi _ | exact bI_hi' _ | exact trivial | exact Or.inl rfl | exact Or.inr rfl | (exfalso; omega)))
    exact hQ f g h hR hA hH
  | succ m ih =>
    intro i f g h hm hi hR hA hH
    refine aw_tree (I1_ok X _) [(true, 49), (false, 24), (true, 16)] [25] rfl ?_
    try dsimp only [bnT]
    repeat' (first | refine And.intro ?_ ?_ | (refine aImp_e0 ?_; intro _) | (refine aImp_n0 ?_; intro _) | (refine aImp_i ?_; intro _))
    all_goals (try (first | omega | exact bI_01 _ | exact bI_lo _ | exact bI_hi _ | exact bI_hi' _ | exact trivial | exact Or.inl rfl | exact Or.inr rfl | (exfalso; omega)))
    refine aw_cf0 (hpf f g h i (by omega) hi) rfl ?_
    refine aw_tree (I1_ok X _) [(true, 49), (false, 24), (true, 16)] [25] rfl ?_
    try dsimp only [bnT]
    repeat' (first | refine And.intro ?_ ?_ | (refine aImp_e0 ?_; intro _) | (refine aImp_n0 ?_; intro _) | (refine aImp_i ?_; intro _))
    all_goals (try (first | omega | exact bI_01 _ | exact bI_lo _ | exact bI_hi _ | exact bI_hi' _ | exact trivial | exact Or.inl rfl | exact Or.inr rfl | (exfalso; omega)))
    have hH' : ∀ j, i ≤ j → j < dN V → aUp h i (VV V (dN V - i).toNat (fun _ => False) (3 + 1) 0) j = VV V (dN V - j).toNat (fun _ => False) (3 + 1) 0 := by
      intro j j0 j1
      by_cases e : j = i
      · rw [e, aUp_s]
      · rw [aUp_n _ _ e]; exact hH j (by omega) j1
    have hff : ∀ {Q1 : AQ}, (∀ f g : FN, tR V 3 (bnT x f g (aUp h i (VV V (dN V - i).toNat (fun _ => False) (3 + 1) 0))) i → tA V 3 (bnT x f g (aUp h i (VV V (dN V - i).toNat (fun _ => False) (3 + 1) 0))) i → Q1 none (CH sb ss T G L O R P C B D S N (MV bm (BH 73 (b0 :: b1 :: b2 :: bnT x f g (aUp h i (VV V (dN V - i).toNat (fun _ => False) (3 + 1) 0)) :: bt))))) → AW X (d + 6) 0 0 29 0 (aEntry 29 [rf 17, rf 85, iv i]) [] (CH sb ss T G L O R P C B D S N (MV bm (BH 73 (b0 :: b1 :: b2 :: bnT x f g (aUp h i (VV V (dN V - i).toNat (fun _ => False) (3 + 1) 0)) :: bt)))) Q1 := by
      intro Q1 hq
      refine aw_tree (I1_ok X _) [(true, 49), (false, 24), (true, 16)] [2] rfl ?_
      exact c_fg_loop3 d sb ss T G L O R P C B D S N bm b0 b1 b2 bt x V i hV hP hx (by omega) (aUp h i (VV V (dN V - i).toNat (fun _ => False) (3 + 1) 0)) hH' hq (x.2.1 + 1).toNat 0 f g jk jk (by omega) (by omega) hR hA (fun u' a b => by omega) (fun u' a b => by omega)
    refine aw_ck0 (hff (fun f' g' hR' hA' => ?_)) rfl
    refine aw_tree (I1_ok X _) [(true, 49), (false, 24), (true, 16)] [25] rfl ?_
    have goal := ih (i - 1) f' g' (aUp h i (VV V (dN V - i).toNat (fun _ => False) (3 + 1) 0)) (by omega) (by omega)
    rw [show i - 1 + 1 = i from by omega] at goal
    exact goal hR' hA' (fun j j0 j1 => hH' j j0 j1)
set_option maxRecDepth 100000 in
theorem c_ft_loop13 {X : AX} (d : Nat) (sb ss : Nat) (T : TyT) (G : TyG) (L : TyL) (O : TyO) (R : TyR) (P : TyP) (C : TyC) (B D : TyB) (S N : TyS) (bm : AC24) (b0 b1 b2 : TyBn) (bt : List TyBn) (x : TyBn) (V : DP) (o : Option Nat) {Q : AQ} (hV : kD V) (hP : rP P V) (hx : x.1 = 3 ∧ (0 ≤ x.2.1 ∧ x.2.1 ≤ 40) ∧ x.2.1 = dX V 3 ∧ 3 < dR V)
    (hpf : ∀ (f g h : FN) (i : Int), 0 ≤ i → i < dN V → AF X (d + 6) 0 0 27 [rf 17, .inr (.inr (.inl o)), iv i] (CH sb ss T G L O R P C B D S N (MV bm (BH 73 (b0 :: b1 :: b2 :: bnT x f g h :: bt)))) (some (iv (VV V (dN V - i).toNat (fun _ => False) (3 + 1) 0))) (CH sb ss T G L O R P C B D S N (MV bm (BH 73 (b0 :: b1 :: b2 :: bnT x f g h :: bt)))))
    (hQ : ∀ f g h : FN, tR V 3 (bnT x f g h) 0 → tA V 3 (bnT x f g h) 0 → tH V 3 (bnT x f g h) 0 → Q none (CH sb ss T G L O R P C B D S N (MV bm (BH 73 (b0 :: b1 :: b2 :: bnT x f g h :: bt))))) (g h : FN) :
    ∀ (m : Nat) (u : Int) (f : FN), u + m = x.2.1 + 1 → 0 ≤ u → (∀ u', 0 ≤ u' → u' < u → f (dN V * (x.2.1 + 1) + u') = 0) → AW X (d + 7) 0 0 28 5 [rf 17, rf 85, .inr (.inr (.inl o)), iv u] [] (CH sb ss T G L O R P C B D S N (MV bm (BH 73 (b0 :: b1 :: b2 :: bnT x f g h :: bt)))) Q := by
  have hn := hV.1
  have p1 := hP.1
  intro m
  induction m with
  | zero =>
    intro u f hm u0 hf
    refine aw_tree (I1_ok X _) [(true, 49), (false, 24), (true, 16)] [5, 25] rfl ?_
    try dsimp only [bnT]
    repeat' (first | refine And.intro ?_ ?_ | (refine aImp_e0 ?_; intro _) | (refine aImp_n0 ?_; intro _) | (refine aImp_i ?_; intro _))
    all_goals (try (first | omega | exact bI_01 _ | exact bI_lo _ | exact bI_hi _ | exact bI_hi' _ | exact trivial | exact Or.inl rfl | exact Or.inr rfl | (exfalso; omega)))
    have goal := c_ft_loop23 (X := X) (Q := Q) d sb ss T G L O R P C B D S N bm b0 b1 b2 bt x V o hV hP hx hpf hQ (dN V).toNat (dN V - 1) f g h (by omega) (by omega) (fun j w' j0 j1 w0 w1 => by
      have e : j = dN V := by omega
      subst e
      have e2 : (dN V - dN V).toNat = 0 := by omega
      rw [e2, VV]
      exact hf w' w0 (by (try dsimp only [bnT] at w1); omega)) (fun j p j0 j1 => by omega) (fun j j0 j1 => by omega)
    rw [← p1] at goal
    exact goal
  | succ m ih =>
    intro u f hm u0 hf
    have hs := slot_b (n := 33) (w := x.2.1) (i := dN V) (u := u) (by omega) (by omega) (by omega)
    rw [← p1] at hs
    refine aw_tree (I1_ok X _) [(true, 49), (false, 24), (true, 16)] [5, 25] rfl ?_
    try dsimp only [bnT]
    repeat' (first | refine And.intro ?_ ?_ | (refine aImp_e0 ?_; intro _) | (refine aImp_n0 ?_; intro _) | (refine aImp_i ?_; intro _))
    all_goals (try (first | omega | exact bI_01 _ | exact bI_lo _ | exact bI_hi _ | exact bI_hi' _ | exact trivial | exact Or.inl rfl | exact Or.inr rfl | (exfalso; omega)))
    refine ih (u + 1) (aUp f (P.2.2.2.2.2.2.2.2.1 * (x.2.1 + 1) + u) 0) (by omega) (by omega) (fun u' a b => ?_)
    rw [p1]
    by_cases e : u' = u
    · rw [e, aUp_s]
    · rw [aUp_n _ _ (by omega)]; exact hf u' a (by omega)
theorem c_fillTables3 {X : AX} (d : Nat) (sb ss : Nat) (T : TyT) (G : TyG) (L : TyL) (O : TyO) (R : TyR) (P : TyP) (C : TyC) (B D : TyB) (S N : TyS) (bm : AC24) (b0 b1 b2 : TyBn) (bt : List TyBn) (x : TyBn) (V : DP) (o : Option Nat) {Q : AQ} (hV : kD V) (hP : rP P V) (hx : x.1 = 3 ∧ (0 ≤ x.2.1 ∧ x.2.1 ≤ 40) ∧ x.2.1 = dX V 3 ∧ 3 < dR V)
    (hpf : ∀ (f g h : FN) (i : Int), 0 ≤ i → i < dN V → AF X (d + 6) 0 0 27 [rf 17, .inr (.inr (.inl o)), iv i] (CH sb ss T G L O R P C B D S N (MV bm (BH 73 (b0 :: b1 :: b2 :: bnT x f g h :: bt)))) (some (iv (VV V (dN V - i).toNat (fun _ => False) (3 + 1) 0))) (CH sb ss T G L O R P C B D S N (MV bm (BH 73 (b0 :: b1 :: b2 :: bnT x f g h :: bt)))))
    (hQ : ∀ f g h : FN, tR V 3 (bnT x f g h) 0 → tA V 3 (bnT x f g h) 0 → tH V 3 (bnT x f g h) 0 → Q none (CH sb ss T G L O R P C B D S N (MV bm (BH 73 (b0 :: b1 :: b2 :: bnT x f g h :: bt))))) :
    AW X (d + 7) 0 0 28 0 (aEntry 28 [rf 17, rf 85, .inr (.inr (.inl o))]) [] (CH sb ss T G L O R P C B D S N (MV bm (BH 73 (b0 :: b1 :: b2 :: x :: bt)))) Q := by
  refine aw_tree (I1_ok X _) [(true, 49), (false, 24), (true, 16)] [5] rfl ?_
  exact c_ft_loop13 d sb ss T G L O R P C B D S N bm b0 b1 b2 bt x V o hV hP hx hpf hQ x.2.2.2.2.2.1 x.2.2.2.2.2.2 (x.2.1 + 1).toNat 0 x.2.2.2.2.1 (by omega) (by omega) (fun u' a b => by omega)
theorem c_pf4 {X : AX} (d : Nat) (sb ss : Nat) (T : TyT) (G : TyG) (L : TyL) (O : TyO) (R : TyR) (P : TyP) (C : TyC) (B D : TyB) (S N : TyS) (bm : AC24) (b0 b1 b2 b3 : TyBn) (bt : List TyBn) (x : TyBn) (V : DP) (i : Int) (hV : kD V) (hx : 0 ≤ x.2.1 ∧ x.2.1 ≤ 40) (hi : 0 ≤ i ∧ i ≤ dN V) (hR : tR V 4 x 0) : AF X (d + 2) 0 0 27 [rf 17, rf 89, iv i] (CH sb ss T G L O R P C B D S N (MV bm (BH 73 (b0 :: b1 :: b2 :: b3 :: x :: bt)))) (some (iv (VV V (dN V - i).toNat (fun _ => False) 4 0))) (CH sb ss T G L O R P C B D S N (MV bm (BH 73 (b0 :: b1 :: b2 :: b3 :: x :: bt)))) := by
  have hn := hV.1
  have hs := slot_b (n := 33) (w := x.2.1) (i := i) (u := 0) (by omega) (by omega) (by omega)
  have hr := hR i 0 hi.1 hi.2 (by omega) (by omega)
  rw [← hr]
  refine aw_tree (I1_ok X _) [(true, 49), (false, 24), (true, 20)] [] rfl ?_
  dsimp only
  repeat' (first | refine And.intro ?_ ?_ | (refine aImp_e0 ?_; intro _) | (refine aImp_n0 ?_; intro _) | (refine aImp_i ?_; intro _))
  all_goals (try (first | omega | exact bI_01 _ | exact bI_lo _ | exact bI_hi _ | exact bI_hi' _ | exact trivial | exact Or.inl rfl | exact Or.inr rfl | (exfalso; omega)))
  all_goals rfl
set_option maxRecDepth 100000 in
theorem c_ft_loop24 {X : AX} (d : Nat) (sb ss : Nat) (T : TyT) (G : TyG) (L : TyL) (O : TyO) (R : TyR) (P : TyP) (C : TyC) (B D : TyB) (S N : TyS) (bm : AC24) (b0 b1 b2 b3 : TyBn) (bt : List TyBn) (x : TyBn) (V : DP) (o : Option Nat) {Q : AQ} (hV : kD V) (hP : rP P V) (hx : x.1 = 4 ∧ (0 ≤ x.2.1 ∧ x.2.1 ≤ 40) ∧ x.2.1 = dX V 4 ∧ 4 < dR V)
    (hpf : ∀ (f g h : FN) (i : Int), 0 ≤ i → i < dN V → AF X (d + 6) 0 0 27 [rf 17, .inr (.inr (.inl o)), iv i] (CH sb ss T G L O R P C B D S N (MV bm (BH 73 (b0 :: b1 :: b2 :: b3 :: bnT x f g h :: bt)))) (some (iv (VV V (dN V - i).toNat (fun _ => False) (4 + 1) 0))) (CH sb ss T G L O R P C B D S N (MV bm (BH 73 (b0 :: b1 :: b2 :: b3 :: bnT x f g h :: bt)))))
    (hQ : ∀ f g h : FN, tR V 4 (bnT x f g h) 0 → tA V 4 (bnT x f g h) 0 → tH V 4 (bnT x f g h) 0 → Q none (CH sb ss T G L O R P C B D S N (MV bm (BH 73 (b0 :: b1 :: b2 :: b3 :: bnT x f g h :: bt))))) :
    ∀ (m : Nat) (i : Int) (f g h : FN), i + 1 = m → i < dN V → tR V 4 (bnT x f g h) (i + 1) → tA V 4 (bnT x f g h) (i + 1) → tH V 4 (bnT x f g h) (i + 1) → AW X (d + 7) 0 0 28 25 [rf 17, rf 89, .inr (.inr (.inl o)), iv i] [] (CH sb ss T G L O R P C B D S N (MV bm (BH 73 (b0 :: b1 :: b2 :: b3 :: bnT x f g h :: bt)))) Q := by
  have hn := hV.1
  intro m
  induction m with
  | zero =>
    intro i f g h hm hi hR hA hH
    have e : i + 1 = 0 := by omega
    rw [e] at hR hA hH
    refine aw_tree (I1_ok X _) [(true, 49), (false, 24), (true, 20)] [25] rfl ?_
    try dsimp only [bnT]
    repeat' (first | refine And.intro ?_ ?_ | (refine aImp_e0 ?_; intro _) | (refine aImp_n0 ?_; intro _) | (refine aImp_i ?_; intro _))
    all_goals (try (first | omega | exact bI_01 _ | exact bI_lo _ | exact bI_hi _ | exact bI_hi' _ | exact trivial | exact Or.inl rfl | exact Or.inr rfl | (exfalso; omega)))
    exact hQ f g h hR hA hH
  | succ m ih =>
    intro i f g h hm hi hR hA hH
    refine aw_tree (I1_ok X _) [(true, 49), (false, 24), (true, 20)] [25] rfl ?_
    try dsimp only [bnT]
    repeat' (first | refine And.intro ?_ ?_ | (refine aImp_e0 ?_; intro _) | (refine aImp_n0 ?_; intro _) | (refine aImp_i ?_; intro _))
    all_goals (try (first | omega | exact bI_01 _ | exact bI_lo _ | exact bI_hi _ | exact bI_hi' _ | exact trivial | exact Or.inl rfl | exact Or.inr rfl | (exfalso; omega)))
    refine aw_cf0 (hpf f g h i (by omega) hi) rfl ?_
    refine aw_tree (I1_ok X _) [(true, 49), (false, 24), (true, 20)] [25] rfl ?_
    try dsimp only [bnT]
    repeat' (first | refine And.intro ?_ ?_ | (refine aImp_e0 ?_; intro _) | (refine aImp_n0 ?_; intro _) | (refine aImp_i ?_; intro _))
    all_goals (try (first | omega | exact bI_01 _ | exact bI_lo _ | exact bI_hi _ | exact bI_hi' _ | exact trivial | exact Or.inl rfl | exact Or.inr rfl | (exfalso; omega)))
    have hH' : ∀ j, i ≤ j → j < dN V → aUp h i (VV V (dN V - i).toNat (fun _ => False) (4 + 1) 0) j = VV V (dN V - j).toNat (fun _ => False) (4 + 1) 0 := by
      intro j j0 j1
      by_cases e : j = i
      · rw [e, aUp_s]
      · rw [aUp_n _ _ e]; exact hH j (by omega) j1
    have hff : ∀ {Q1 : AQ}, (∀ f g : FN, tR V 4 (bnT x f g (aUp h i (VV V (dN V - i).toNat (fun _ => False) (4 + 1) 0))) i → tA V 4 (bnT x f g (aUp h i (VV V (dN V - i).toNat (fun _ => False) (4 + 1) 0))) i → Q1 none (CH sb ss T G L O R P C B D S N (MV bm (BH 73 (b0 :: b1 :: b2 :: b3 :: bnT x f g (aUp h i (VV V (dN V - i).toNat (fun _ => False) (4 + 1) 0)) :: bt))))) → AW X (d + 6) 0 0 29 0 (aEntry 29 [rf 17, rf 89, iv i]) [] (CH sb ss T G L O R P C B D S N (MV bm (BH 73 (b0 :: b1 :: b2 :: b3 :: bnT x f g (aUp h i (VV V (dN V - i).toNat (fun _ => False) (4 + 1) 0)) :: bt)))) Q1 := by
      intro Q1 hq
      refine aw_tree (I1_ok X _) [(true, 49), (false, 24), (true, 20)] [2] rfl ?_
      exact c_fg_loop4 d sb ss T G L O R P C B D S N bm b0 b1 b2 b3 bt x V i hV hP hx (by omega) (aUp h i (VV V (dN V - i).toNat (fun _ => False) (4 + 1) 0)) hH' hq (x.2.1 + 1).toNat 0 f g jk jk (by omega) (by omega) hR hA (fun u' a b => by omega) (fun u' a b => by omega)
    refine aw_ck0 (hff (fun f' g' hR' hA' => ?_)) rfl
    refine aw_tree (I1_ok X _) [(true, 49), (false, 24), (true, 20)] [25] rfl ?_
    have goal := ih (i - 1) f' g' (aUp h i (VV V (dN V - i).toNat (fun _ => False) (4 + 1) 0)) (by omega) (by omega)
    rw [show i - 1 + 1 = i from by omega] at goal
    exact goal hR' hA' (fun j j0 j1 => hH' j j0 j1)
set_option maxRecDepth 100000 in
theorem c_ft_loop14 {X : AX} (d : Nat) (sb ss : Nat) (T : TyT) (G : TyG) (L : TyL) (O : TyO) (R : TyR) (P : TyP) (C : TyC) (B D : TyB) (S N : TyS) (bm : AC24) (b0 b1 b2 b3 : TyBn) (bt : List TyBn) (x : TyBn) (V : DP) (o : Option Nat) {Q : AQ} (hV : kD V) (hP : rP P V) (hx : x.1 = 4 ∧ (0 ≤ x.2.1 ∧ x.2.1 ≤ 40) ∧ x.2.1 = dX V 4 ∧ 4 < dR V)
    (hpf : ∀ (f g h : FN) (i : Int), 0 ≤ i → i < dN V → AF X (d + 6) 0 0 27 [rf 17, .inr (.inr (.inl o)), iv i] (CH sb ss T G L O R P C B D S N (MV bm (BH 73 (b0 :: b1 :: b2 :: b3 :: bnT x f g h :: bt)))) (some (iv (VV V (dN V - i).toNat (fun _ => False) (4 + 1) 0))) (CH sb ss T G L O R P C B D S N (MV bm (BH 73 (b0 :: b1 :: b2 :: b3 :: bnT x f g h :: bt)))))
    (hQ : ∀ f g h : FN, tR V 4 (bnT x f g h) 0 → tA V 4 (bnT x f g h) 0 → tH V 4 (bnT x f g h) 0 → Q none (CH sb ss T G L O R P C B D S N (MV bm (BH 73 (b0 :: b1 :: b2 :: b3 :: bnT x f g h :: bt))))) (g h : FN) :
    ∀ (m : Nat) (u : Int) (f : FN), u + m = x.2.1 + 1 → 0 ≤ u → (∀ u', 0 ≤ u' → u' < u → f (dN V * (x.2.1 + 1) + u') = 0) → AW X (d + 7) 0 0 28 5 [rf 17, rf 89, .inr (.inr (.inl o)), iv u] [] (CH sb ss T G L O R P C B D S N (MV bm (BH 73 (b0 :: b1 :: b2 :: b3 :: bnT x f g h :: bt)))) Q := by
  have hn := hV.1
  have p1 := hP.1
  intro m
  induction m with
  | zero =>
    intro u f hm u0 hf
    refine aw_tree (I1_ok X _) [(true, 49), (false, 24), (true, 20)] [5, 25] rfl ?_
    try dsimp only [bnT]
    repeat' (first | refine And.intro ?_ ?_ | (refine aImp_e0 ?_; intro _) | (refine aImp_n0 ?_; intro _) | (refine aImp_i ?_; intro _))
    all_goals (try (first | omega | exact bI_01 _ | exact bI_lo _ | exact bI_hi _ | exact bI_hi' _ | exact trivial | exact Or.inl rfl | exact Or.inr rfl | (exfalso; omega)))
    have goal := c_ft_loop24 (X := X) (Q := Q) d sb ss T G L O R P C B D S N bm b0 b1 b2 b3 bt x V o hV hP hx hpf hQ (dN V).toNat (dN V - 1) f g h (by omega) (by omega) (fun j w' j0 j1 w0 w1 => by
      have e : j = dN V := by omega
      subst e
      have e2 : (dN V - dN V).toNat = 0 := by omega
      rw [e2, VV]
      exact hf w' w0 (by (try dsimp only [bnT] at w1); omega)) (fun j p j0 j1 => by omega) (fun j j0 j1 => by omega)
    rw [← p1] at goal
    exact goal
  | succ m ih =>
    intro u f hm u0 hf
    have hs := slot_b (n := 33) (w := x.2.1) (i := dN V) (u := u) (by omega) (by omega) (by omega)
    rw [← p1] at hs
    refine aw_tree (I1_ok X _) [(true, 49), (false, 24), (true, 20)] [5, 25] rfl ?_
    try dsimp only [bnT]
    repeat' (first | refine And.intro ?_ ?_ | (refine aImp_e0 ?_; intro _) | (refine aImp_n0 ?_; intro _) | (refine aImp_i ?_; intro _))
    all_goals (try (first | omega | exact bI_01 _ | exact bI_lo _ | exact bI_hi _ | exact bI_hi' _ | exact trivial | exact Or.inl rfl | exact Or.inr rfl | (exfalso; omega)))
    refine ih (u + 1) (aUp f (P.2.2.2.2.2.2.2.2.1 * (x.2.1 + 1) + u) 0) (by omega) (by omega) (fun u' a b => ?_)
    rw [p1]
    by_cases e : u' = u
    · rw [e, aUp_s]
    · rw [aUp_n _ _ (by omega)]; exact hf u' a (by omega)
theorem c_fillTables4 {X : AX} (d : Nat) (sb ss : Nat) (T : TyT) (G : TyG) (L : TyL) (O : TyO) (R : TyR) (P : TyP) (C : TyC) (B D : TyB) (S N : TyS) (bm : AC24) (b0 b1 b2 b3 : TyBn) (bt : List TyBn) (x : TyBn) (V : DP) (o : Option Nat) {Q : AQ} (hV : kD V) (hP : rP P V) (hx : x.1 = 4 ∧ (0 ≤ x.2.1 ∧ x.2.1 ≤ 40) ∧ x.2.1 = dX V 4 ∧ 4 < dR V)
    (hpf : ∀ (f g h : FN) (i : Int), 0 ≤ i → i < dN V → AF X (d + 6) 0 0 27 [rf 17, .inr (.inr (.inl o)), iv i] (CH sb ss T G L O R P C B D S N (MV bm (BH 73 (b0 :: b1 :: b2 :: b3 :: bnT x f g h :: bt)))) (some (iv (VV V (dN V - i).toNat (fun _ => False) (4 + 1) 0))) (CH sb ss T G L O R P C B D S N (MV bm (BH 73 (b0 :: b1 :: b2 :: b3 :: bnT x f g h :: bt)))))
    (hQ : ∀ f g h : FN, tR V 4 (bnT x f g h) 0 → tA V 4 (bnT x f g h) 0 → tH V 4 (bnT x f g h) 0 → Q none (CH sb ss T G L O R P C B D S N (MV bm (BH 73 (b0 :: b1 :: b2 :: b3 :: bnT x f g h :: bt))))) :
    AW X (d + 7) 0 0 28 0 (aEntry 28 [rf 17, rf 89, .inr (.inr (.inl o))]) [] (CH sb ss T G L O R P C B D S N (MV bm (BH 73 (b0 :: b1 :: b2 :: b3 :: x :: bt)))) Q := by
  refine aw_tree (I1_ok X _) [(true, 49), (false, 24), (true, 20)] [5] rfl ?_
  exact c_ft_loop14 d sb ss T G L O R P C B D S N bm b0 b1 b2 b3 bt x V o hV hP hx hpf hQ x.2.2.2.2.2.1 x.2.2.2.2.2.2 (x.2.1 + 1).toNat 0 x.2.2.2.2.1 (by omega) (by omega) (fun u' a b => by omega)
theorem c_pf5 {X : AX} (d : Nat) (sb ss : Nat) (T : TyT) (G : TyG) (L : TyL) (O : TyO) (R : TyR) (P : TyP) (C : TyC) (B D : TyB) (S N : TyS) (bm : AC24) (b0 b1 b2 b3 b4 : TyBn) (bt : List TyBn) (x : TyBn) (V : DP) (i : Int) (hV : kD V) (hx : 0 ≤ x.2.1 ∧ x.2.1 ≤ 40) (hi : 0 ≤ i ∧ i ≤ dN V) (hR : tR V 5 x 0) : AF X (d + 2) 0 0 27 [rf 17, rf 93, iv i] (CH sb ss T G L O R P C B D S N (MV bm (BH 73 (b0 :: b1 :: b2 :: b3 :: b4 :: x :: bt)))) (some (iv (VV V (dN V - i).toNat (fun _ => False) 5 0))) (CH sb ss T G L O R P C B D S N (MV bm (BH 73 (b0 :: b1 :: b2 :: b3 :: b4 :: x :: bt)))) := by
  have hn := hV.1
  have hs := slot_b (n := 33) (w := x.2.1) (i := i) (u := 0) (by omega) (by omega) (by omega)
  have hr := hR i 0 hi.1 hi.2 (by omega) (by omega)
  rw [← hr]
  refine aw_tree (I1_ok X _) [(true, 49), (false, 24), (true, 24)] [] rfl ?_
  dsimp only
  repeat' (first | refine And.intro ?_ ?_ | (refine aImp_e0 ?_; intro _) | (refine aImp_n0 ?_; intro _) | (refine aImp_i ?_; intro _))
  all_goals (try (first | omega | exact bI_01 _ | exact bI_lo _ | exact bI_hi _ | exact bI_hi' _ | exact trivial | exact Or.inl rfl | exact Or.inr rfl | (exfalso; omega)))
  all_goals rfl
set_option maxRecDepth 100000 in
theorem c_ft_loop25 {X : AX} (d : Nat) (sb ss : Nat) (T : TyT) (G : TyG) (L : TyL) (O : TyO) (R : TyR) (P : TyP) (C : TyC) (B D : TyB) (S N : TyS) (bm : AC24) (b0 b1 b2 b3 b4 : TyBn) (bt : List TyBn) (x : TyBn) (V : DP) (o : Option Nat) {Q : AQ} (hV : kD V) (hP : rP P V) (hx : x.1 = 5 ∧ (0 ≤ x.2.1 ∧ x.2.1 ≤ 40) ∧ x.2.1 = dX V 5 ∧ 5 < dR V)
    (hpf : ∀ (f g h : FN) (i : Int), 0 ≤ i → i < dN V → AF X (d + 6) 0 0 27 [rf 17, .inr (.inr (.inl o)), iv i] (CH sb ss T G L O R P C B D S N (MV bm (BH 73 (b0 :: b1 :: b2 :: b3 :: b4 :: bnT x f g h :: bt)))) (some (iv (VV V (dN V - i).toNat (fun _ => False) (5 + 1) 0))) (CH sb ss T G L O R P C B D S N (MV bm (BH 73 (b0 :: b1 :: b2 :: b3 :: b4 :: bnT x f g h :: bt)))))
    (hQ : ∀ f g h : FN, tR V 5 (bnT x f g h) 0 → tA V 5 (bnT x f g h) 0 → tH V 5 (bnT x f g h) 0 → Q none (CH sb ss T G L O R P C B D S N (MV bm (BH 73 (b0 :: b1 :: b2 :: b3 :: b4 :: bnT x f g h :: bt))))) :
    ∀ (m : Nat) (i : Int) (f g h : FN), i + 1 = m → i < dN V → tR V 5 (bnT x f g h) (i + 1) → tA V 5 (bnT x f g h) (i + 1) → tH V 5 (bnT x f g h) (i + 1) → AW X (d + 7) 0 0 28 25 [rf 17, rf 93, .inr (.inr (.inl o)), iv i] [] (CH sb ss T G L O R P C B D S N (MV bm (BH 73 (b0 :: b1 :: b2 :: b3 :: b4 :: bnT x f g h :: bt)))) Q := by
  have hn := hV.1
  intro m
  induction m with
  | zero =>
    intro i f g h hm hi hR hA hH
    have e : i + 1 = 0 := by omega
    rw [e] at hR hA hH
    refine aw_tree (I1_ok X _) [(true, 49), (false, 24), (true, 24)] [25] rfl ?_
    try dsimp only [bnT]
    repeat' (first | refine And.intro ?_ ?_ | (refine aImp_e0 ?_; intro _) | (refine aImp_n0 ?_; intro _) | (refine aImp_i ?_; intro _))
    all_goals (try (first | omega | exact bI_01 _ | exact bI_lo _ | exact bI_hi _ | exact bI_hi' _ | exact trivial | exact Or.inl rfl | exact Or.inr rfl | (exfalso; omega)))
    exact hQ f g h hR hA hH
  | succ m ih =>
    intro i f g h hm hi hR hA hH
    refine aw_tree (I1_ok X _) [(true, 49), (false, 24), (true, 24)] [25] rfl ?_
    try dsimp only [bnT]
    repeat' (first | refine And.intro ?_ ?_ | (refine aImp_e0 ?_; intro _) | (refine aImp_n0 ?_; intro _) | (refine aImp_i ?_; intro _))
    all_goals (try (first | omega | exact bI_01 _ | exact bI_lo _ | exact bI_hi _ | exact bI_hi' _ | exact trivial | exact Or.inl rfl | exact Or.inr rfl | (exfalso; omega)))
    refine aw_cf0 (hpf f g h i (by omega) hi) rfl ?_
    refine aw_tree (I1_ok X _) [(true, 49), (false, 24), (true, 24)] [25] rfl ?_
    try dsimp only [bnT]
    repeat' (first | refine And.intro ?_ ?_ | (refine aImp_e0 ?_; intro _) | (refine aImp_n0 ?_; intro _) | (refine aImp_i ?_; intro _))
    all_goals (try (first | omega | exact bI_01 _ | exact bI_lo _ | exact bI_hi _ | exact bI_hi' _ | exact trivial | exact Or.inl rfl | exact Or.inr rfl | (exfalso; omega)))
    have hH' : ∀ j, i ≤ j → j < dN V → aUp h i (VV V (dN V - i).toNat (fun _ => False) (5 + 1) 0) j = VV V (dN V - j).toNat (fun _ => False) (5 + 1) 0 := by
      intro j j0 j1
      by_cases e : j = i
      · rw [e, aUp_s]
      · rw [aUp_n _ _ e]; exact hH j (by omega) j1
    have hff : ∀ {Q1 : AQ}, (∀ f g : FN, tR V 5 (bnT x f g (aUp h i (VV V (dN V - i).toNat (fun _ => False) (5 + 1) 0))) i → tA V 5 (bnT x f g (aUp h i (VV V (dN V - i).toNat (fun _ => False) (5 + 1) 0))) i → Q1 none (CH sb ss T G L O R P C B D S N (MV bm (BH 73 (b0 :: b1 :: b2 :: b3 :: b4 :: bnT x f g (aUp h i (VV V (dN V - i).toNat (fun _ => False) (5 + 1) 0)) :: bt))))) → AW X (d + 6) 0 0 29 0 (aEntry 29 [rf 17, rf 93, iv i]) [] (CH sb ss T G L O R P C B D S N (MV bm (BH 73 (b0 :: b1 :: b2 :: b3 :: b4 :: bnT x f g (aUp h i (VV V (dN V - i).toNat (fun _ => False) (5 + 1) 0)) :: bt)))) Q1 := by
      intro Q1 hq
      refine aw_tree (I1_ok X _) [(true, 49), (false, 24), (true, 24)] [2] rfl ?_
      exact c_fg_loop5 d sb ss T G L O R P C B D S N bm b0 b1 b2 b3 b4 bt x V i hV hP hx (by omega) (aUp h i (VV V (dN V - i).toNat (fun _ => False) (5 + 1) 0)) hH' hq (x.2.1 + 1).toNat 0 f g jk jk (by omega) (by omega) hR hA (fun u' a b => by omega) (fun u' a b => by omega)
    refine aw_ck0 (hff (fun f' g' hR' hA' => ?_)) rfl
    refine aw_tree (I1_ok X _) [(true, 49), (false, 24), (true, 24)] [25] rfl ?_
    have goal := ih (i - 1) f' g' (aUp h i (VV V (dN V - i).toNat (fun _ => False) (5 + 1) 0)) (by omega) (by omega)
    rw [show i - 1 + 1 = i from by omega] at goal
    exact goal hR' hA' (fun j j0 j1 => hH' j j0 j1)
set_option maxRecDepth 100000 in
theorem c_ft_loop15 {X : AX} (d : Nat) (sb ss : Nat) (T : TyT) (G : TyG) (L : TyL) (O : TyO) (R : TyR) (P : TyP) (C : TyC) (B D : TyB) (S N : TyS) (bm : AC24) (b0 b1 b2 b3 b4 : TyBn) (bt : List TyBn) (x : TyBn) (V : DP) (o : Option Nat) {Q : AQ} (hV : kD V) (hP : rP P V) (hx : x.1 = 5 ∧ (0 ≤ x.2.1 ∧ x.2.1 ≤ 40) ∧ x.2.1 = dX V 5 ∧ 5 < dR V)
    (hpf : ∀ (f g h : FN) (i : Int), 0 ≤ i → i < dN V → AF X (d + 6) 0 0 27 [rf 17, .inr (.inr (.inl o)), iv i] (CH sb ss T G L O R P C B D S N (MV bm (BH 73 (b0 :: b1 :: b2 :: b3 :: b4 :: bnT x f g h :: bt)))) (some (iv (VV V (dN V - i).toNat (fun _ => False) (5 + 1) 0))) (CH sb ss T G L O R P C B D S N (MV bm (BH 73 (b0 :: b1 :: b2 :: b3 :: b4 :: bnT x f g h :: bt)))))
    (hQ : ∀ f g h : FN, tR V 5 (bnT x f g h) 0 → tA V 5 (bnT x f g h) 0 → tH V 5 (bnT x f g h) 0 → Q none (CH sb ss T G L O R P C B D S N (MV bm (BH 73 (b0 :: b1 :: b2 :: b3 :: b4 :: bnT x f g h :: bt))))) (g h : FN) :
    ∀ (m : Nat) (u : Int) (f : FN), u + m = x.2.1 + 1 → 0 ≤ u → (∀ u', 0 ≤ u' → u' < u → f (dN V * (x.2.1 + 1) + u') = 0) → AW X (d + 7) 0 0 28 5 [rf 17, rf 93, .inr (.inr (.inl o)), iv u] [] (CH sb ss T G L O R P C B D S N (MV bm (BH 73 (b0 :: b1 :: b2 :: b3 :: b4 :: bnT x f g h :: bt)))) Q := by
  have hn := hV.1
  have p1 := hP.1
  intro m
  induction m with
  | zero =>
    intro u f hm u0 hf
    refine aw_tree (I1_ok X _) [(true, 49), (false, 24), (true, 24)] [5, 25] rfl ?_
    try dsimp only [bnT]
    repeat' (first | refine And.intro ?_ ?_ | (refine aImp_e0 ?_; intro _) | (refine aImp_n0 ?_; intro _) | (refine aImp_i ?_; intro _))
    all_goals (try (first | omega | exact bI_01 _ | exact bI_lo _ | exact bI_hi _ | exact bI_hi' _ | exact trivial | exact Or.inl rfl | exact Or.inr rfl | (exfalso; omega)))
    have goal := c_ft_loop25 (X := X) (Q := Q) d sb ss T G L O R P C B D S N bm b0 b1 b2 b3 b4 bt x V o hV hP hx hpf hQ (dN V).toNat (dN V - 1) f g h (by omega) (by omega) (fun j w' j0 j1 w0 w1 => by
      have e : j = dN V := by omega
      subst e
      have e2 : (dN V - dN V).toNat = 0 := by omega
      rw [e2, VV]
      exact hf w' w0 (by (try dsimp only [bnT] at w1); omega)) (fun j p j0 j1 => by omega) (fun j j0 j1 => by omega)
    rw [← p1] at goal
    exact goal
  | succ m ih =>
    intro u f hm u0 hf
    have hs := slot_b (n := 33) (w := x.2.1) (i := dN V) (u := u) (by omega) (by omega) (by omega)
    rw [← p1] at hs
    refine aw_tree (I1_ok X _) [(true, 49), (false, 24), (true, 24)] [5, 25] rfl ?_
    try dsimp only [bnT]
    repeat' (first | refine And.intro ?_ ?_ | (refine aImp_e0 ?_; intro _) | (refine aImp_n0 ?_; intro _) | (refine aImp_i ?_; intro _))
    all_goals (try (first | omega | exact bI_01 _ | exact bI_lo _ | exact bI_hi _ | exact bI_hi' _ | exact trivial | exact Or.inl rfl | exact Or.inr rfl | (exfalso; omega)))
    refine ih (u + 1) (aUp f (P.2.2.2.2.2.2.2.2.1 * (x.2.1 + 1) + u) 0) (by omega) (by omega) (fun u' a b => ?_)
    rw [p1]
    by_cases e : u' = u
    · rw [e, aUp_s]
    · rw [aUp_n _ _ (by omega)]; exact hf u' a (by omega)
theorem c_fillTables5 {X : AX} (d : Nat) (sb ss : Nat) (T : TyT) (G : TyG) (L : TyL) (O : TyO) (R : TyR) (P : TyP) (C : TyC) (B D : TyB) (S N : TyS) (bm : AC24) (b0 b1 b2 b3 b4 : TyBn) (bt : List TyBn) (x : TyBn) (V : DP) (o : Option Nat) {Q : AQ} (hV : kD V) (hP : rP P V) (hx : x.1 = 5 ∧ (0 ≤ x.2.1 ∧ x.2.1 ≤ 40) ∧ x.2.1 = dX V 5 ∧ 5 < dR V)
    (hpf : ∀ (f g h : FN) (i : Int), 0 ≤ i → i < dN V → AF X (d + 6) 0 0 27 [rf 17, .inr (.inr (.inl o)), iv i] (CH sb ss T G L O R P C B D S N (MV bm (BH 73 (b0 :: b1 :: b2 :: b3 :: b4 :: bnT x f g h :: bt)))) (some (iv (VV V (dN V - i).toNat (fun _ => False) (5 + 1) 0))) (CH sb ss T G L O R P C B D S N (MV bm (BH 73 (b0 :: b1 :: b2 :: b3 :: b4 :: bnT x f g h :: bt)))))
    (hQ : ∀ f g h : FN, tR V 5 (bnT x f g h) 0 → tA V 5 (bnT x f g h) 0 → tH V 5 (bnT x f g h) 0 → Q none (CH sb ss T G L O R P C B D S N (MV bm (BH 73 (b0 :: b1 :: b2 :: b3 :: b4 :: bnT x f g h :: bt))))) :
    AW X (d + 7) 0 0 28 0 (aEntry 28 [rf 17, rf 93, .inr (.inr (.inl o))]) [] (CH sb ss T G L O R P C B D S N (MV bm (BH 73 (b0 :: b1 :: b2 :: b3 :: b4 :: x :: bt)))) Q := by
  refine aw_tree (I1_ok X _) [(true, 49), (false, 24), (true, 24)] [5] rfl ?_
  exact c_ft_loop15 d sb ss T G L O R P C B D S N bm b0 b1 b2 b3 b4 bt x V o hV hP hx hpf hQ x.2.2.2.2.2.1 x.2.2.2.2.2.2 (x.2.1 + 1).toNat 0 x.2.2.2.2.1 (by omega) (by omega) (fun u' a b => by omega)

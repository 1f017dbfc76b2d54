abbrev pUL (P : TyP) (u l : Int) : TyP := (P.1, P.2.1, P.2.2.1, P.2.2.2.1, P.2.2.2.2.1, P.2.2.2.2.2.1, P.2.2.2.2.2.2.1, P.2.2.2.2.2.2.2.1, P.2.2.2.2.2.2.2.2.1, P.2.2.2.2.2.2.2.2.2.1, P.2.2.2.2.2.2.2.2.2.2.1, P.2.2.2.2.2.2.2.2.2.2.2.1, u, l)
theorem rP_UL {P : TyP} {V : DP} (h : rP P V) (u l : Int) : rP (pUL P u l) V := h
noncomputable def rcA (V : DP) (o : FN) : Nat → FN → FN
  | 0, f => f
  | i + 1, f => aUp (rcA V o i f) (o i) (cif (roV V i = 6) (-1) (roV V i))
noncomputable def lnA (V : DP) (o : FN) : Nat → FN × Int → FN × Int
  | 0, q => q
  | i + 1, q => cif (roV V i = 6) (lnA V o i q) (aUp (lnA V o i q).1 (lnA V o i q).2 (o i), (lnA V o i q).2 + 1)
theorem lnA_r {V : DP} {o f : FN} : ∀ (i : Nat), 0 ≤ (lnA V o i (f, 0)).2 ∧ (lnA V o i (f, 0)).2 ≤ i := by
  intro i
  induction i with
  | zero =>
    show (0 : Int) ≤ 0 ∧ (0 : Int) ≤ ((0 : Nat) : Int)
    omega
  | succ i ih =>
    rw [lnA]
    by_cases h : roV V i = 6
    · rw [cif_t h]; omega
    · rw [cif_f h]; dsimp only; omega
theorem wst_x {V : DP} (h : kD V) : ∀ (i : Nat), (i : Int) ≤ dN V → (wst V i).2.1 < dR V → (wst V i).2.2 ≤ dX V (wst V i).2.1 := by
  intro i
  induction i with
  | zero =>
    intro _ hr
    have := h.2.2.2.2.2.1 0 (by omega) hr
    show (0 : Int) ≤ dX V 0
    omega
  | succ i ih =>
    intro hi hr
    by_cases hc : roV V i = 6
    · rw [wst_out hc] at hr ⊢; exact ih (by omega) hr
    · have hp := plV_r h (i := i) (by omega) hc
      rw [wst_sit hc]
      dsimp only
      omega
theorem c_leaveOut0 {X : AX} (d : Nat) (sb ss : Nat) (T : TyT) (G : TyG) (L : TyL) (O : TyO) (R : TyR) (P : TyP) (C : TyC) (B D : TyB) (S N : TyS) (t : AH) (g : Int) (hg : 0 ≤ g ∧ g < 32) : AF X (d + 2) 0 0 61 [rf 41, iv g] (CH sb ss T G L O R P C B D S N t) none (CH sb ss T G L O R P C B D (aUp S.1 g (-1), S.2) N t) := by
  refine aw_tree (I0_ok X _) [(true, 49)] [] rfl ?_
  dsimp only
  repeat' (first | refine And.intro ?_ ?_ | (refine aImp_e0 ?_; intro _) | (refine aImp_n0 ?_; intro _) | (refine aImp_i ?_; intro _))
  all_goals (try (first | omega | exact bI_01 _ | exact bI_lo _ | exact bI_hi _ | exact bI_hi' _ | exact trivial | exact Or.inl rfl | exact Or.inr rfl | (exfalso; omega)))
  all_goals rfl
theorem c_sitDown0 {X : AX} (d : Nat) (sb ss : Nat) (T : TyT) (G : TyG) (L : TyL) (O : TyO) (R : TyR) (P : TyP) (C : TyC) (B D : TyB) (S N : TyS) (t : AH) (g row p : Int) (hg : 0 ≤ g ∧ g < 32) (hc : 0 ≤ S.2.2.2.1 ∧ S.2.2.2.1 < 32) : AF X (d + 2) 0 0 62 [rf 41, iv g, iv row, iv p] (CH sb ss T G L O R P C B D S N t) none (CH sb ss T G L O R P C B D (aUp S.1 g row, aUp S.2.1 g p, aUp S.2.2.1 S.2.2.2.1 g, S.2.2.2.1 + 1, S.2.2.2.2) N t) := by
  refine aw_tree (I0_ok X _) [(true, 49)] [] rfl ?_
  dsimp only
  repeat' (first | refine And.intro ?_ ?_ | (refine aImp_e0 ?_; intro _) | (refine aImp_n0 ?_; intro _) | (refine aImp_i ?_; intro _))
  all_goals (try (first | omega | exact bI_01 _ | exact bI_lo _ | exact bI_hi _ | exact bI_hi' _ | exact trivial | exact Or.inl rfl | exact Or.inr rfl | (exfalso; omega)))
  all_goals rfl
theorem c_begin0 {X : AX} (d : Nat) (sb ss : Nat) (T : TyT) (G : TyG) (L : TyL) (O : TyO) (R : TyR) (P : TyP) (C : TyC) (B D : TyB) (S N : TyS) (t : AH) (rw0 : Int) : AF X (d + 4) 0 0 60 [rf 41, iv rw0] (CH sb ss T G L O R P C B D S N t) none (CH sb ss T G L O R P C B D (fil S.1 (-2) 32, fil S.2.1 (-1) 32, S.2.2.1, 0, rw0, S.2.2.2.2.2.1, 1) N t) := by
  have hcl : AF X (d + 3) 0 0 59 [rf 41] (CH sb ss T G L O R P C B D S N t) none (CH sb ss T G L O R P C B D (fil S.1 (-2) 32, fil S.2.1 (-1) 32, S.2.2.1, 0, S.2.2.2.2) N t) := by
    refine aw_tree (I0_ok X _) [(true, 49)] [] rfl ?_
    refine aw_cf0 (c_fill (d + 0) 42 32 (-2) S.1 _ (by omega) rfl) rfl ?_
    refine aw_tree (I0_ok X _) [(true, 49)] [] rfl ?_
    refine aw_cf0 (c_fill (d + 0) 43 32 (-1) S.2.1 _ (by omega) rfl) rfl ?_
    refine aw_tree (I0_ok X _) [(true, 49)] [] rfl ?_
    exact ⟨rfl, rfl⟩
  refine aw_tree (I0_ok X _) [(true, 49)] [] rfl ?_
  refine aw_cf0 hcl rfl ?_
  refine aw_tree (I0_ok X _) [(true, 49)] [] rfl ?_
  dsimp only
  repeat' (first | refine And.intro ?_ ?_ | (refine aImp_e0 ?_; intro _) | (refine aImp_n0 ?_; intro _) | (refine aImp_i ?_; intro _))
  all_goals (try (first | omega | exact bI_01 _ | exact bI_lo _ | exact bI_hi _ | exact bI_hi' _ | exact trivial | exact Or.inl rfl | exact Or.inr rfl | (exfalso; omega)))
  all_goals rfl
set_option maxRecDepth 100000 in
theorem c_walk_loop0 {X : AX} (d : Nat) (sb ss : Nat) (T : TyT) (G : TyG) (L : TyL) (O : TyO) (R : TyR) (P : TyP) (C : TyC) (B D : TyB) (S N : TyS) (bm : AC24) (β : List TyBn) (V : DP) {Q : AQ} (hV : kD V) (hP : rP P V) (hL : L.2.1 = dR V ∧ hlB L) (hb : okB V β) (ht : tbs V β 0) (hgs : ∀ i, 0 ≤ i → i < dN V → 0 ≤ P.1 i ∧ P.1 i < 32)
    (f0 g0 h0 : FN) (s3 : Int × Int × Int)
    (hQ : ∀ (u l : Int), Q none (CH sb ss T G L O R (pUL P u l) C B D (rcA V P.1 (dN V).toNat f0, poA V P.1 (dN V).toNat g0, (lnA V P.1 (dN V).toNat (h0, 0)).1, (lnA V P.1 (dN V).toNat (h0, 0)).2, s3) N (MV bm (BH 73 β)))) :
    ∀ (m i : Nat) (v5 v6 : AV), i + m = (dN V).toNat → AW X (d + 7) 0 0 34 10 [rf 17, rf 12, rf 41, iv (wst V i).2.1, iv i, v5, v6] [] (CH sb ss T G L O R (pUL P (wst V i).2.2 (wst V i).1) C B D (rcA V P.1 i f0, poA V P.1 i g0, (lnA V P.1 i (h0, 0)).1, (lnA V P.1 i (h0, 0)).2, s3) N (MV bm (BH 73 β))) Q := by
  have hn := hV.1
  have p1 := hP.1
  intro m
  induction m with
  | zero =>
    intro i v5 v6 hi
    have e : i = (dN V).toNat := by omega
    subst e
    refine aw_tree (I0_ok X _) [(true, 49), (false, 24)] [10] rfl ?_
    dsimp only
    repeat' (first | refine And.intro ?_ ?_ | (refine aImp_e0 ?_; intro _) | (refine aImp_n0 ?_; intro _) | (refine aImp_i ?_; intro _))
    all_goals (try (first | omega | exact bI_01 _ | exact bI_lo _ | exact bI_hi _ | exact bI_hi' _ | exact trivial | exact Or.inl rfl | exact Or.inr rfl | (exfalso; omega)))
    exact hQ (wst V (dN V).toNat).2.2 (wst V (dN V).toNat).1
  | succ m ih =>
    intro i v5 v6 hi
    obtain ⟨b1, b2, b3, b4⟩ := wst_ok hV i (by omega)
    have hwx := wst_x hV i (by omega)
    have hidx : (0 : Int) ≤ i ∧ (i : Int) < dN V := by omega
    have hg := hgs i hidx.1 hidx.2
    have hlr := lnA_r (V := V) (o := P.1) (f := h0) i
    have hwi := (hP.2.1 i hidx.1 hidx.2).1
    have hc := (cho_ok hV (l := (wst V i).1) (r := (wst V i).2.1) (p := (wst V i).2.2) (i := i) hidx).1
    have hch : 0 ≤ roV V i ∧ roV V i ≤ 6 := hc
    have hu : (wst V i).2.2 = cif ((wst V i).1 < 0) 0 (wst V i).2.2 := by
      by_cases q : (wst V i).1 < 0
      · rw [cif_t q]; exact (b4 q).2
      · rw [cif_f q]
    have ih' := fun v5 v6 => ih (i + 1) v5 v6 (by omega)
    refine aw_tree (I0_ok X _) [(true, 49), (false, 24)] [10] rfl ?_
    dsimp only
    repeat' (first | refine And.intro ?_ ?_ | (refine aImp_e0 ?_; intro _) | (refine aImp_n0 ?_; intro _) | (refine aImp_i ?_; intro _))
    all_goals (try (first | omega | exact bI_01 _ | exact bI_lo _ | exact bI_hi _ | exact bI_hi' _ | exact trivial | exact Or.inl rfl | exact Or.inr rfl | (exfalso; omega)))
    refine aw_cf0 (c_chooseRow _ sb ss T G L O R (pUL P (wst V i).2.2 (wst V i).1) C B D (rcA V P.1 i f0, poA V P.1 i g0, (lnA V P.1 i (h0, 0)).1, (lnA V P.1 i (h0, 0)).2, s3) N bm β V i (wst V i).2.1 (wst V i).2.2 hV (rP_UL hP _ _) hL hb ht hidx (by omega) b1 hu ⟨b3.1, hwx⟩) rfl ?_
    show AW X (d + 7) 0 0 34 _ _ ((some (iv (cif (roV V i = 6) (-1) (roV V i)))).toList ++ _) _ Q
    by_cases h6 : roV V i = 6
    · rw [cif_t h6]
      have goal := ih' (iv (-1)) v6
      rw [rcA, poA, lnA, cif_t h6, cif_t h6, cif_t h6, wst_out h6] at goal
      refine aw_tree (I0_ok X _) [(true, 49), (false, 24)] [10] rfl ?_
      dsimp only
      repeat' (first | refine And.intro ?_ ?_ | (refine aImp_e0 ?_; intro _) | (refine aImp_n0 ?_; intro _) | (refine aImp_i ?_; intro _))
      all_goals (try (first | omega | exact bI_01 _ | exact bI_lo _ | exact bI_hi _ | exact bI_hi' _ | exact trivial | exact Or.inl rfl | exact Or.inr rfl | (exfalso; omega)))
      refine aw_cf0 (c_leaveOut0 _ sb ss T G L O R (pUL P (wst V i).2.2 (wst V i).1) C B D (rcA V P.1 i f0, poA V P.1 i g0, (lnA V P.1 i (h0, 0)).1, (lnA V P.1 i (h0, 0)).2, s3) N (MV bm (BH 73 β)) (P.1 i) (by omega)) rfl ?_
      refine aw_tree (I0_ok X _) [(true, 49), (false, 24)] [10] rfl ?_
      exact goal
    · rw [cif_f h6]
      have goal := ih' (iv (roV V i)) (iv (plV V i))
      rw [rcA, poA, lnA, cif_f h6, cif_f h6, cif_f h6, wst_sit h6, ← hwi] at goal
      have fin : AW X (d + 7) 0 0 34 38 [rf 17, rf 12, rf 41, iv (wst V i).2.1, iv i, iv (roV V i), v6] [iv (plV V i)] (CH sb ss T G L O R (pUL P (wst V i).2.2 (wst V i).1) C B D (rcA V P.1 i f0, poA V P.1 i g0, (lnA V P.1 i (h0, 0)).1, (lnA V P.1 i (h0, 0)).2, s3) N (MV bm (BH 73 β))) Q := by
        refine aw_tree (I0_ok X _) [(true, 49), (false, 24)] [10] rfl ?_
        dsimp only
        repeat' (first | refine And.intro ?_ ?_ | (refine aImp_e0 ?_; intro _) | (refine aImp_n0 ?_; intro _) | (refine aImp_i ?_; intro _))
        all_goals (try (first | omega | exact bI_01 _ | exact bI_lo _ | exact bI_hi _ | exact bI_hi' _ | exact trivial | exact Or.inl rfl | exact Or.inr rfl | (exfalso; omega)))
        refine aw_cf0 (c_sitDown0 _ sb ss T G L O R (pUL P (wst V i).2.2 (wst V i).1) C B D (rcA V P.1 i f0, poA V P.1 i g0, (lnA V P.1 i (h0, 0)).1, (lnA V P.1 i (h0, 0)).2, s3) N (MV bm (BH 73 β)) (P.1 i) (roV V i) (plV V i) (by omega) (by (try dsimp only); omega)) rfl ?_
        refine aw_tree (I0_ok X _) [(true, 49), (false, 24)] [10] rfl ?_
        dsimp only
        repeat' (first | refine And.intro ?_ ?_ | (refine aImp_e0 ?_; intro _) | (refine aImp_n0 ?_; intro _) | (refine aImp_i ?_; intro _))
        all_goals (try (first | omega | exact bI_01 _ | exact bI_lo _ | exact bI_hi _ | exact bI_hi' _ | exact trivial | exact Or.inl rfl | exact Or.inr rfl | (exfalso; omega)))
        exact goal
      by_cases hr : roV V i = (wst V i).2.1
      · have epl : plV V i = (wst V i).2.2 + cif (dB V (wst V i).1 i) (dF V) 0 := by
          unfold plV begV
          rw [cif_t hr, ← hu]
        rw [epl] at fin
        refine aw_tree (I0_ok X _) [(true, 49), (false, 24)] [10, 38] rfl ?_
        dsimp only
        repeat' (first | refine And.intro ?_ ?_ | (refine aImp_e0 ?_; intro _) | (refine aImp_n0 ?_; intro _) | (refine aImp_i ?_; intro _))
        all_goals (try (first | omega | exact bI_01 _ | exact bI_lo _ | exact bI_hi _ | exact bI_hi' _ | exact trivial | exact Or.inl rfl | exact Or.inr rfl | (exfalso; omega)))
        refine aw_cf0 (c_placeBeside _ sb ss T G L O R (pUL P (wst V i).2.2 (wst V i).1) C B D (rcA V P.1 i f0, poA V P.1 i g0, (lnA V P.1 i (h0, 0)).1, (lnA V P.1 i (h0, 0)).2, s3) N (MV bm (BH 73 β)) i V hV (rP_UL hP _ _) b1 (by omega)) rfl ?_
        refine aw_tree (I0_ok X _) [(true, 49), (false, 24)] [10, 38] rfl ?_
        exact fin
      · have epl : plV V i = 0 := by
          unfold plV begV
          rw [cif_f hr]
        rw [epl] at fin
        refine aw_tree (I0_ok X _) [(true, 49), (false, 24)] [10, 38] rfl ?_
        dsimp only
        repeat' (first | refine And.intro ?_ ?_ | (refine aImp_e0 ?_; intro _) | (refine aImp_n0 ?_; intro _) | (refine aImp_i ?_; intro _))
        all_goals (try (first | omega | exact bI_01 _ | exact bI_lo _ | exact bI_hi _ | exact bI_hi' _ | exact trivial | exact Or.inl rfl | exact Or.inr rfl | (exfalso; omega)))
        exact fin
theorem c_leaveOut1 {X : AX} (d : Nat) (sb ss : Nat) (T : TyT) (G : TyG) (L : TyL) (O : TyO) (R : TyR) (P : TyP) (C : TyC) (B D : TyB) (S N : TyS) (t : AH) (g : Int) (hg : 0 ≤ g ∧ g < 32) : AF X (d + 2) 0 0 61 [rf 45, iv g] (CH sb ss T G L O R P C B D S N t) none (CH sb ss T G L O R P C B D S (aUp N.1 g (-1), N.2) t) := by
  refine aw_tree (I0_ok X _) [(true, 49)] [] rfl ?_
  dsimp only
  repeat' (first | refine And.intro ?_ ?_ | (refine aImp_e0 ?_; intro _) | (refine aImp_n0 ?_; intro _) | (refine aImp_i ?_; intro _))
  all_goals (try (first | omega | exact bI_01 _ | exact bI_lo _ | exact bI_hi _ | exact bI_hi' _ | exact trivial | exact Or.inl rfl | exact Or.inr rfl | (exfalso; omega)))
  all_goals rfl
theorem c_sitDown1 {X : AX} (d : Nat) (sb ss : Nat) (T : TyT) (G : TyG) (L : TyL) (O : TyO) (R : TyR) (P : TyP) (C : TyC) (B D : TyB) (S N : TyS) (t : AH) (g row p : Int) (hg : 0 ≤ g ∧ g < 32) (hc : 0 ≤ N.2.2.2.1 ∧ N.2.2.2.1 < 32) : AF X (d + 2) 0 0 62 [rf 45, iv g, iv row, iv p] (CH sb ss T G L O R P C B D S N t) none (CH sb ss T G L O R P C B D S (aUp N.1 g row, aUp N.2.1 g p, aUp N.2.2.1 N.2.2.2.1 g, N.2.2.2.1 + 1, N.2.2.2.2) t) := by
  refine aw_tree (I0_ok X _) [(true, 49)] [] rfl ?_
  dsimp only
  repeat' (first | refine And.intro ?_ ?_ | (refine aImp_e0 ?_; intro _) | (refine aImp_n0 ?_; intro _) | (refine aImp_i ?_; intro _))
  all_goals (try (first | omega | exact bI_01 _ | exact bI_lo _ | exact bI_hi _ | exact bI_hi' _ | exact trivial | exact Or.inl rfl | exact Or.inr rfl | (exfalso; omega)))
  all_goals rfl
theorem c_begin1 {X : AX} (d : Nat) (sb ss : Nat) (T : TyT) (G : TyG) (L : TyL) (O : TyO) (R : TyR) (P : TyP) (C : TyC) (B D : TyB) (S N : TyS) (t : AH) (rw0 : Int) : AF X (d + 4) 0 0 60 [rf 45, iv rw0] (CH sb ss T G L O R P C B D S N t) none (CH sb ss T G L O R P C B D S (fil N.1 (-2) 32, fil N.2.1 (-1) 32, N.2.2.1, 0, rw0, N.2.2.2.2.2.1, 1) t) := by
  have hcl : AF X (d + 3) 0 0 59 [rf 45] (CH sb ss T G L O R P C B D S N t) none (CH sb ss T G L O R P C B D S (fil N.1 (-2) 32, fil N.2.1 (-1) 32, N.2.2.1, 0, N.2.2.2.2) t) := by
    refine aw_tree (I0_ok X _) [(true, 49)] [] rfl ?_
    refine aw_cf0 (c_fill (d + 0) 46 32 (-2) N.1 _ (by omega) rfl) rfl ?_
    refine aw_tree (I0_ok X _) [(true, 49)] [] rfl ?_
    refine aw_cf0 (c_fill (d + 0) 47 32 (-1) N.2.1 _ (by omega) rfl) rfl ?_
    refine aw_tree (I0_ok X _) [(true, 49)] [] rfl ?_
    exact ⟨rfl, rfl⟩
  refine aw_tree (I0_ok X _) [(true, 49)] [] rfl ?_
  refine aw_cf0 hcl rfl ?_
  refine aw_tree (I0_ok X _) [(true, 49)] [] rfl ?_
  dsimp only
  repeat' (first | refine And.intro ?_ ?_ | (refine aImp_e0 ?_; intro _) | (refine aImp_n0 ?_; intro _) | (refine aImp_i ?_; intro _))
  all_goals (try (first | omega | exact bI_01 _ | exact bI_lo _ | exact bI_hi _ | exact bI_hi' _ | exact trivial | exact Or.inl rfl | exact Or.inr rfl | (exfalso; omega)))
  all_goals rfl
set_option maxRecDepth 100000 in
theorem c_walk_loop1 {X : AX} (d : Nat) (sb ss : Nat) (T : TyT) (G : TyG) (L : TyL) (O : TyO) (R : TyR) (P : TyP) (C : TyC) (B D : TyB) (S N : TyS) (bm : AC24) (β : List TyBn) (V : DP) {Q : AQ} (hV : kD V) (hP : rP P V) (hL : L.2.1 = dR V ∧ hlB L) (hb : okB V β) (ht : tbs V β 0) (hgs : ∀ i, 0 ≤ i → i < dN V → 0 ≤ P.1 i ∧ P.1 i < 32)
    (f0 g0 h0 : FN) (s3 : Int × Int × Int)
    (hQ : ∀ (u l : Int), Q none (CH sb ss T G L O R (pUL P u l) C B D S (rcA V P.1 (dN V).toNat f0, poA V P.1 (dN V).toNat g0, (lnA V P.1 (dN V).toNat (h0, 0)).1, (lnA V P.1 (dN V).toNat (h0, 0)).2, s3) (MV bm (BH 73 β)))) :
    ∀ (m i : Nat) (v5 v6 : AV), i + m = (dN V).toNat → AW X (d + 7) 0 0 34 10 [rf 17, rf 12, rf 45, iv (wst V i).2.1, iv i, v5, v6] [] (CH sb ss T G L O R (pUL P (wst V i).2.2 (wst V i).1) C B D S (rcA V P.1 i f0, poA V P.1 i g0, (lnA V P.1 i (h0, 0)).1, (lnA V P.1 i (h0, 0)).2, s3) (MV bm (BH 73 β))) Q := by
  have hn := hV.1
  have p1 := hP.1
  intro m
  induction m with
  | zero =>
    intro i v5 v6 hi
    have e : i = (dN V).toNat := by omega
    subst e
    refine aw_tree (I0_ok X _) [(true, 49), (false, 24)] [10] rfl ?_
    dsimp only
    repeat' (first | refine And.intro ?_ ?_ | (refine aImp_e0 ?_; intro _) | (refine aImp_n0 ?_; intro _) | (refine aImp_i ?_; intro _))
    all_goals (try (first | omega | exact bI_01 _ | exact bI_lo _ | exact bI_hi _ | exact bI_hi' _ | exact trivial | exact Or.inl rfl | exact Or.inr rfl | (exfalso; omega)))
    exact hQ (wst V (dN V).toNat).2.2 (wst V (dN V).toNat).1
  | succ m ih =>
    intro i v5 v6 hi
    obtain ⟨b1, b2, b3, b4⟩ := wst_ok hV i (by omega)
    have hwx := wst_x hV i (by omega)
    have hidx : (0 : Int) ≤ i ∧ (i : Int) < dN V := by omega
    have hg := hgs i hidx.1 hidx.2
    have hlr := lnA_r (V := V) (o := P.1) (f := h0) i
    have hwi := (hP.2.1 i hidx.1 hidx.2).1
    have hc := (cho_ok hV (l := (wst V i).1) (r := (wst V i).2.1) (p := (wst V i).2.2) (i := i) hidx).1
    have hch : 0 ≤ roV V i ∧ roV V i ≤ 6 := hc
    have hu : (wst V i).2.2 = cif ((wst V i).1 < 0) 0 (wst V i).2.2 := by
      by_cases q : (wst V i).1 < 0
      · rw [cif_t q]; exact (b4 q).2
      · rw [cif_f q]
    have ih' := fun v5 v6 => ih (i + 1) v5 v6 (by omega)
    refine aw_tree (I0_ok X _) [(true, 49), (false, 24)] [10] rfl ?_
    dsimp only
    repeat' (first | refine And.intro ?_ ?_ | (refine aImp_e0 ?_; intro _) | (refine aImp_n0 ?_; intro _) | (refine aImp_i ?_; intro _))
    all_goals (try (first | omega | exact bI_01 _ | exact bI_lo _ | exact bI_hi _ | exact bI_hi' _ | exact trivial | exact Or.inl rfl | exact Or.inr rfl | (exfalso; omega)))
    refine aw_cf0 (c_chooseRow _ sb ss T G L O R (pUL P (wst V i).2.2 (wst V i).1) C B D S (rcA V P.1 i f0, poA V P.1 i g0, (lnA V P.1 i (h0, 0)).1, (lnA V P.1 i (h0, 0)).2, s3) bm β V i (wst V i).2.1 (wst V i).2.2 hV (rP_UL hP _ _) hL hb ht hidx (by omega) b1 hu ⟨b3.1, hwx⟩) rfl ?_
    show AW X (d + 7) 0 0 34 _ _ ((some (iv (cif (roV V i = 6) (-1) (roV V i)))).toList ++ _) _ Q
    by_cases h6 : roV V i = 6
    · rw [cif_t h6]
      have goal := ih' (iv (-1)) v6
      rw [rcA, poA, lnA, cif_t h6, cif_t h6, cif_t h6, wst_out h6] at goal
      refine aw_tree (I0_ok X _) [(true, 49), (false, 24)] [10] rfl ?_
      dsimp only
      repeat' (first | refine And.intro ?_ ?_ | (refine aImp_e0 ?_; intro _) | (refine aImp_n0 ?_; intro _) | (refine aImp_i ?_; intro _))
      all_goals (try (first | omega | exact bI_01 _ | exact bI_lo _ | exact bI_hi _ | exact bI_hi' _ | exact trivial | exact Or.inl rfl | exact Or.inr rfl | (exfalso; omega)))
      refine aw_cf0 (c_leaveOut1 _ sb ss T G L O R (pUL P (wst V i).2.2 (wst V i).1) C B D S (rcA V P.1 i f0, poA V P.1 i g0, (lnA V P.1 i (h0, 0)).1, (lnA V P.1 i (h0, 0)).2, s3) (MV bm (BH 73 β)) (P.1 i) (by omega)) rfl ?_
      refine aw_tree (I0_ok X _) [(true, 49), (false, 24)] [10] rfl ?_
      exact goal
    · rw [cif_f h6]
      have goal := ih' (iv (roV V i)) (iv (plV V i))
      rw [rcA, poA, lnA, cif_f h6, cif_f h6, cif_f h6, wst_sit h6, ← hwi] at goal
      have fin : AW X (d + 7) 0 0 34 38 [rf 17, rf 12, rf 45, iv (wst V i).2.1, iv i, iv (roV V i), v6] [iv (plV V i)] (CH sb ss T G L O R (pUL P (wst V i).2.2 (wst V i).1) C B D S (rcA V P.1 i f0, poA V P.1 i g0, (lnA V P.1 i (h0, 0)).1, (lnA V P.1 i (h0, 0)).2, s3) (MV bm (BH 73 β))) Q := by
        refine aw_tree (I0_ok X _) [(true, 49), (false, 24)] [10] rfl ?_
        dsimp only
        repeat' (first | refine And.intro ?_ ?_ | (refine aImp_e0 ?_; intro _) | (refine aImp_n0 ?_; intro _) | (refine aImp_i ?_; intro _))
        all_goals (try (first | omega | exact bI_01 _ | exact bI_lo _ | exact bI_hi _ | exact bI_hi' _ | exact trivial | exact Or.inl rfl | exact Or.inr rfl | (exfalso; omega)))
        refine aw_cf0 (c_sitDown1 _ sb ss T G L O R (pUL P (wst V i).2.2 (wst V i).1) C B D S (rcA V P.1 i f0, poA V P.1 i g0, (lnA V P.1 i (h0, 0)).1, (lnA V P.1 i (h0, 0)).2, s3) (MV bm (BH 73 β)) (P.1 i) (roV V i) (plV V i) (by omega) (by (try dsimp only); omega)) rfl ?_
        refine aw_tree (I0_ok X _) [(true, 49), (false, 24)] [10] rfl ?_
        dsimp only
        repeat' (first | refine And.intro ?_ ?_ | (refine aImp_e0 ?_; intro _) | (refine aImp_n0 ?_; intro _) | (refine aImp_i ?_; intro _))
        all_goals (try (first | omega | exact bI_01 _ | exact bI_lo _ | exact bI_hi _ | exact bI_hi' _ | exact trivial | exact Or.inl rfl | exact Or.inr rfl | (exfalso; omega)))
        exact goal
      by_cases hr : roV V i = (wst V i).2.1
      · have epl : plV V i = (wst V i).2.2 + cif (dB V (wst V i).1 i) (dF V) 0 := by
          unfold plV begV
          rw [cif_t hr, ← hu]
        rw [epl] at fin
        refine aw_tree (I0_ok X _) [(true, 49), (false, 24)] [10, 38] rfl ?_
        dsimp only
        repeat' (first | refine And.intro ?_ ?_ | (refine aImp_e0 ?_; intro _) | (refine aImp_n0 ?_; intro _) | (refine aImp_i ?_; intro _))
        all_goals (try (first | omega | exact bI_01 _ | exact bI_lo _ | exact bI_hi _ | exact bI_hi' _ | exact trivial | exact Or.inl rfl | exact Or.inr rfl | (exfalso; omega)))
        refine aw_cf0 (c_placeBeside _ sb ss T G L O R (pUL P (wst V i).2.2 (wst V i).1) C B D S (rcA V P.1 i f0, poA V P.1 i g0, (lnA V P.1 i (h0, 0)).1, (lnA V P.1 i (h0, 0)).2, s3) (MV bm (BH 73 β)) i V hV (rP_UL hP _ _) b1 (by omega)) rfl ?_
        refine aw_tree (I0_ok X _) [(true, 49), (false, 24)] [10, 38] rfl ?_
        exact fin
      · have epl : plV V i = 0 := by
          unfold plV begV
          rw [cif_f hr]
        rw [epl] at fin
        refine aw_tree (I0_ok X _) [(true, 49), (false, 24)] [10, 38] rfl ?_
        dsimp only
        repeat' (first | refine And.intro ?_ ?_ | (refine aImp_e0 ?_; intro _) | (refine aImp_n0 ?_; intro _) | (refine aImp_i ?_; intro _))
        all_goals (try (first | omega | exact bI_01 _ | exact bI_lo _ | exact bI_hi _ | exact bI_hi' _ | exact trivial | exact Or.inl rfl | exact Or.inr rfl | (exfalso; omega)))
        exact fin

theorem c_seat0 {X : AX} (d : Nat) (sb : Nat) (T : TyT) (G : TyG) (L : TyL) (O : TyO) (R : TyR) (P : TyP) (C : TyC) (B D : TyB) (S N : TyS) (bm : AC24) (β : List TyBn) (mG : TyMG) (mR : TyMR) (o rw' pw : FN) (n an : Int) (V : DP) {Q : AQ} (hVd : V = DM mG mR o n rw' pw an) (hV : kD V) (hG : kG mG) (hv : rGv G mG) (hgb : rGb G mG) (han : an = 0 ∨ an = 1) (hn : 0 ≤ n ∧ n ≤ 32) (hO : O.2 = n) (ho : ∀ i, 0 ≤ i → i < n → O.1 i = o i ∧ 0 ≤ o i ∧ o i < mG.2.2.2) (hS : rSw S rw' pw) (hL : L.2.1 = dR V ∧ hlB L) (hLf : L.2.2.2.1 = dF V ∧ L.2.2.2.2 = dE V) (hb : okB V β) (hinj : ∀ a b : Nat, a < n.toNat → b < n.toNat → o a = o b → a = b)
    (hQ : ∀ (β' : List TyBn) (P' : TyP), okB V β' → hdB β' = hdB β → Q (some (iv (Int.tdiv (pr4 V 0 (-1) 0 0) 64))) (CH sb 1 T G L O R P' C B D S (rcA V o n.toNat (fil N.1 (-2) 32), poA V o n.toNat (fil N.2.1 (-1) 32), (lnA V o n.toNat (N.2.2.1, 0)).1, (lnA V o n.toNat (N.2.2.1, 0)).2, L.2.1, smN (eV V o rw' pw) n.toNat, 1) (MV bm (BH 73 β')))) :
    AW X (d + 9) 0 0 89 0 (aEntry 89 [rf 0, iv an]) [] (CH sb 0 T G L O R P C B D S N (MV bm (BH 73 β))) Q := by
  have hg := hG.1
  refine aw_tree (I0_ok X _) [(true, 49), (false, 24)] [] rfl ?_
  refine aw_ck0 (c_prepare0 _ sb 0 T G L O R P C B D S N (MV bm (BH 73 β)) mG mR o rw' pw n an hG hv hgb han hn hO ho hS (fun P1 hP1 hPa => ?_)) rfl
  refine aw_tree (I0_ok X _) [(true, 49), (false, 24)] [] rfl ?_
  refine aw_ck0 (c_plan1 d sb 0 T G L O R P1 C B D S N bm β mG mR o rw' pw n an V hVd hV (by rw [hVd]; exact hP1) hPa hL hLf hb hn (fun i i0 i1 => by have := ho i i0 i1; omega) hinj (fun g g0 g1 => (hS g g0 g1).2.2.1.1) (fun β' P' hb' hhd => ?_)) rfl
  refine aw_tree (I0_ok X _) [(true, 49), (false, 24)] [] rfl ?_
  exact hQ β' P' hb' hhd
theorem c_seat1 {X : AX} (d : Nat) (sb : Nat) (T : TyT) (G : TyG) (L : TyL) (O : TyO) (R : TyR) (P : TyP) (C : TyC) (B D : TyB) (S N : TyS) (bm : AC24) (β : List TyBn) (mG : TyMG) (mR : TyMR) (o rw' pw : FN) (n an : Int) (V : DP) {Q : AQ} (hVd : V = DM mG mR o n rw' pw an) (hV : kD V) (hG : kG mG) (hv : rGv G mG) (hgb : rGb G mG) (han : an = 0 ∨ an = 1) (hn : 0 ≤ n ∧ n ≤ 32) (hO : O.2 = n) (ho : ∀ i, 0 ≤ i → i < n → O.1 i = o i ∧ 0 ≤ o i ∧ o i < mG.2.2.2) (hS : rSw N rw' pw) (hL : L.2.1 = dR V ∧ hlB L) (hLf : L.2.2.2.1 = dF V ∧ L.2.2.2.2 = dE V) (hb : okB V β) (hinj : ∀ a b : Nat, a < n.toNat → b < n.toNat → o a = o b → a = b)
    (hQ : ∀ (β' : List TyBn) (P' : TyP), okB V β' → hdB β' = hdB β → Q (some (iv (Int.tdiv (pr4 V 0 (-1) 0 0) 64))) (CH sb 0 T G L O R P' C B D (rcA V o n.toNat (fil S.1 (-2) 32), poA V o n.toNat (fil S.2.1 (-1) 32), (lnA V o n.toNat (S.2.2.1, 0)).1, (lnA V o n.toNat (S.2.2.1, 0)).2, L.2.1, smN (eV V o rw' pw) n.toNat, 1) N (MV bm (BH 73 β')))) :
    AW X (d + 9) 0 0 89 0 (aEntry 89 [rf 0, iv an]) [] (CH sb 1 T G L O R P C B D S N (MV bm (BH 73 β))) Q := by
  have hg := hG.1
  refine aw_tree (I0_ok X _) [(true, 49), (false, 24)] [] rfl ?_
  refine aw_ck0 (c_prepare1 _ sb 1 T G L O R P C B D S N (MV bm (BH 73 β)) mG mR o rw' pw n an hG hv hgb han hn hO ho hS (fun P1 hP1 hPa => ?_)) rfl
  refine aw_tree (I0_ok X _) [(true, 49), (false, 24)] [] rfl ?_
  refine aw_ck0 (c_plan0 d sb 1 T G L O R P1 C B D S N bm β mG mR o rw' pw n an V hVd hV (by rw [hVd]; exact hP1) hPa hL hLf hb hn (fun i i0 i1 => by have := ho i i0 i1; omega) hinj (fun g g0 g1 => (hS g g0 g1).2.2.1.1) (fun β' P' hb' hhd => ?_)) rfl
  refine aw_tree (I0_ok X _) [(true, 49), (false, 24)] [] rfl ?_
  exact hQ β' P' hb' hhd

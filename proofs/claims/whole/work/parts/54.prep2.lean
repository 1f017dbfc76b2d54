theorem mv_eq {rw' pw : FN} {an g r p ar ap : Int} (han : an = 0 ∨ an = 1) (hr : 0 ≤ r ∧ r < 6) (h : (rw' g < 6 ∧ ar = rw' g ∧ ap = pw g) ∨ (¬ rw' g < 6 ∧ ar = -1 ∧ ap = -1)) : cif (¬ ar = r ∨ ¬ ap = p) an 0 = mvM rw' pw an g r p := by
  unfold mvM
  rcases han with rfl | rfl
  · rw [cif_t rfl]
    by_cases q : ¬ ar = r ∨ ¬ ap = p
    · rw [cif_t q]
    · rw [cif_f q]
  · rw [cif_f (show ¬ (1 : Int) = 0 from by omega), cif_f (show ¬ r = 6 from by omega)]
    by_cases q : ¬ ar = r ∨ ¬ ap = p
    · rw [cif_t q, cif_f (fun k => by omega)]
    · rw [cif_f q, cif_t (by omega)]
set_option maxRecDepth 100000 in
theorem c_prep_loop0 {X : AX} (d : Nat) (sb ss : Nat) (T : TyT) (G : TyG) (L : TyL) (O : TyO) (R : TyR) (C : TyC) (B D : TyB) (S N : TyS) (t : AH) (mG : TyMG) (mR : TyMR) (o rw' pw : FN) (n an : Int) {Q : AQ} (hG : kG mG) (hv : rGv G mG) (hb : rGb G mG) (han : an = 0 ∨ an = 1) (hn : 0 ≤ n ∧ n ≤ 32) (ho : ∀ i, 0 ≤ i → i < n → O.1 i = o i ∧ 0 ≤ o i ∧ o i < mG.2.2.2) (hS : rSw S rw' pw)
    (hQ : ∀ P : TyP, rPj P (DM mG mR o n rw' pw an) o 0 → rPa P o rw' pw n 0 → Q none (CH sb ss T G L O R P C B D S N t)) :
    ∀ (m : Nat) (i : Int) (P : TyP) (v6 v7 : AV), i + 1 = m → i < n → P.2.2.2.2.2.2.2.2.2.1 = an → rPj P (DM mG mR o n rw' pw an) o (i + 1) → rPa P o rw' pw n (i + 1) → AW X (d + 5) 0 0 24 22 [rf 17, rf 3, rf 14, rf 41, iv an, iv i, v6, v7] [] (CH sb ss T G L O R P C B D S N t) Q := by
  have hg32 := hG.1
  intro m
  induction m with
  | zero =>
    intro i P v6 v7 hm hi hmp hP hPa
    have e : i + 1 = 0 := by omega
    rw [e] at hP hPa
    refine aw_tree (I0_ok X _) [(true, 49)] [22] rfl ?_
    repeat' (first | refine And.intro ?_ ?_ | (refine aImp_e0 ?_; intro _) | (refine aImp_n0 ?_; intro _) | (refine aImp_i ?_; intro _))
    all_goals (try (first | omega | exact bI_01 _ | exact bI_lo _ | exact bI_hi _ | exact bI_hi' _ | exact trivial | exact Or.inl rfl | exact Or.inr rfl | (exfalso; omega)))
    exact hQ P hP hPa
  | succ m ih =>
    intro i P v6 v7 hm hi hmp hP hPa
    obtain ⟨q1, q2, q3, q4, q5, q6, q7, q8⟩ := hP
    have q1' : P.2.2.2.2.2.2.2.2.1 = n := q1
    have ho1 := ho i (by omega) hi
    have hsw := hS (o i) ho1.2.1 (by omega)
    have hgv := hv.2.1 (o i) ho1.2.1 (by omega)
    have g2 := hG.2.2.1 (o i) ho1.2.1 (by omega)
    have g1 := hG.2.1 (6 * o i + 3)
    have hdO : dO (DM mG mR o n rw' pw an) i = 64 * mG.1 (6 * o i + 3) + mvM rw' pw an (o i) 6 0 := rfl
    have hdW : dW (DM mG mR o n rw' pw an) i = mG.1 (6 * o i + 4) := rfl
    refine aw_tree (I0_ok X _) [(true, 49)] [22] rfl ?_
    rw [ho1.1]
    repeat' (first | refine And.intro ?_ ?_ | (refine aImp_e0 ?_; intro _) | (refine aImp_n0 ?_; intro _) | (refine aImp_i ?_; intro _))
    all_goals (try (first | omega | exact bI_01 _ | exact bI_lo _ | exact bI_hi _ | exact bI_hi' _ | exact trivial | exact Or.inl rfl | exact Or.inr rfl | (exfalso; omega)))
    refine aw_cf0 (c_isSeated0 _ sb ss T G L O R P C B D S N t (o i) (by unfold inR; omega) (by unfold inR; omega)) rfl ?_
    -- what stands there afterwards
    have fin : ∀ (ar ap out : Int) (v7 : AV), ((rw' (o i) < 6 ∧ ar = rw' (o i) ∧ ap = pw (o i)) ∨ (¬ rw' (o i) < 6 ∧ ar = -1 ∧ ap = -1)) → (-1 ≤ ar ∧ ar ≤ 5) ∧ (-1 ≤ ap ∧ ap ≤ 40) → out = dO (DM mG mR o n rw' pw an) i → AW X (d + 5) 0 0 24 105 [rf 17, rf 3, rf 14, rf 41, iv an, iv i, iv (o i), v7] [rf 3, iv i, rf 17] (CH sb ss T G L O R (aUp P.1 i (o i), aUp P.2.1 i (G.2.2.2.1 (o i)), aUp P.2.2.1 i out, P.2.2.2.1, P.2.2.2.2.1, aUp P.2.2.2.2.2.1 i ar, aUp P.2.2.2.2.2.2.1 i ap, aUp P.2.2.2.2.2.2.2.1 i (P.2.2.2.2.2.2.2.1 (i + 1) + aUp P.2.2.1 i out i), P.2.2.2.2.2.2.2.2) C B D S N t) Q := by
      intro ar ap out v7 har hrr hout
      refine aw_ck0 (c_noteBars _ sb ss T G L O R (aUp P.1 i (o i), aUp P.2.1 i (G.2.2.2.1 (o i)), aUp P.2.2.1 i out, P.2.2.2.1, P.2.2.2.2.1, aUp P.2.2.2.2.2.1 i ar, aUp P.2.2.2.2.2.2.1 i ap, aUp P.2.2.2.2.2.2.2.1 i (P.2.2.2.2.2.2.2.1 (i + 1) + aUp P.2.2.1 i out i), P.2.2.2.2.2.2.2.2) C B D S N t mG i n hb ⟨q1, by omega⟩ (by omega) (fun j j0 j1 => ?_) (fun b l hb1 hb2 hb3 => ?_)) rfl
      · dsimp only
        have hoj := ho j (by omega) j1
        by_cases e : j = i
        · rw [e, aUp_s]; omega
        · rw [aUp_n _ _ e, (q2 j (by omega) j1).1]; omega
      · dsimp only at hb1 hb3
        have hgi : ∀ k, i < k → k < n → aUp P.1 i (o i) k = o k := fun k k0 k1 => by
          rw [aUp_n _ _ (by omega), (q2 k (by omega) k1).1]
        rw [aUp_s] at hb1 hb3
        have goal := ih (i + -1) (pBL (aUp P.1 i (o i), aUp P.2.1 i (G.2.2.2.1 (o i)), aUp P.2.2.1 i out, P.2.2.2.1, P.2.2.2.2.1, aUp P.2.2.2.2.2.1 i ar, aUp P.2.2.2.2.2.2.1 i ap, aUp P.2.2.2.2.2.2.2.1 i (P.2.2.2.2.2.2.2.1 (i + 1) + aUp P.2.2.1 i out i), P.2.2.2.2.2.2.2.2) (aUp P.2.2.2.1 i b) (aUp P.2.2.2.2.1 i l)) (iv (o i)) v7 (by omega) (by omega) hmp
        rw [show i + -1 + 1 = i from by omega] at goal
        have hstep : rPj (pBL (aUp P.1 i (o i), aUp P.2.1 i (G.2.2.2.1 (o i)), aUp P.2.2.1 i out, P.2.2.2.1, P.2.2.2.2.1, aUp P.2.2.2.2.2.1 i ar, aUp P.2.2.2.2.2.2.1 i ap, aUp P.2.2.2.2.2.2.2.1 i (P.2.2.2.2.2.2.2.1 (i + 1) + aUp P.2.2.1 i out i), P.2.2.2.2.2.2.2.2) (aUp P.2.2.2.1 i b) (aUp P.2.2.2.2.1 i l)) (DM mG mR o n rw' pw an) o i := by
          refine ⟨q1, fun j j0 j1 => ?_, fun j j0 j1 => ?_, fun j k j0 j1 j2 => ?_, q5, fun j r p j0 j1 r0 r1 => ?_, fun j j0 j1 => ?_, fun j j0 j1 => ?_⟩
          · dsimp only
            by_cases e : j = i
            · rw [e, aUp_s, aUp_s, aUp_s]; exact ⟨rfl, by rw [hdW]; exact hgv.2.2.2.2.1, hout⟩
            · rw [aUp_n _ _ e, aUp_n _ _ e, aUp_n _ _ e]; exact q2 j (by omega) j1
          · dsimp only
            by_cases e : j = i
            · rw [e, aUp_s]
              refine ⟨hb2, fun k k0 k1 k2 hk => ?_⟩
              have := hb3 k k0 k1 k2
              rw [hgi k k0 k1] at this
              exact hk.2 this
            · rw [aUp_n _ _ e]; exact q3 j (by omega) j1
          · dsimp only
            by_cases e : j = i
            · rw [e, aUp_s]
              rw [e] at j1
              have := hb1 k j1 j2
              rw [hgi k j1 j2] at this
              rw [this]
              exact ⟨fun h => ⟨by omega, h⟩, fun h => h.2⟩
            · rw [aUp_n _ _ e]; exact q4 j k (by omega) j1 j2
          · dsimp only
            by_cases e : j = i
            · rw [e, aUp_s, aUp_s, hmp]
              exact mv_eq han ⟨r0, r1⟩ har
            · rw [aUp_n _ _ e, aUp_n _ _ e]; exact q6 j r p (by omega) j1 r0 r1
          · dsimp only
            by_cases e : j = i
            · have hq7 := q7 (i + 1) (by omega) (by show i + 1 ≤ n; omega)
              rw [e, aUp_s, aUp_s, hq7, hout]
              have e1 : (dN (DM mG mR o n rw' pw an) - i).toNat = (dN (DM mG mR o n rw' pw an) - (i + 1)).toNat + 1 := by
                show (n - i).toNat = (n - (i + 1)).toNat + 1
                omega
              rw [e1, nob]
              have e2 : dN (DM mG mR o n rw' pw an) - (((dN (DM mG mR o n rw' pw an) - (i + 1)).toNat : Int) + 1) = i := by
                show n - (((n - (i + 1)).toNat : Int) + 1) = i
                omega
              rw [e2]
            · rw [aUp_n _ _ e]; exact q7 j (by omega) j1
          · dsimp only
            by_cases e : j = i
            · rw [e, aUp_s, aUp_s]; unfold inR; omega
            · rw [aUp_n _ _ e, aUp_n _ _ e]; exact q8 j (by omega) j1
        refine aw_tree (I0_ok X _) [(true, 49)] [22] rfl ?_
        refine goal hstep (fun j j0 j1 => ?_)
        dsimp only
        by_cases e : j = i
        · rw [e, aUp_s, aUp_s]; exact har
        · rw [aUp_n _ _ e, aUp_n _ _ e]; exact hPa j (by omega) j1
    by_cases hsat : 0 ≤ S.1 (o i)
    · have hlt := hsw.2.2.2.1.mp hsat
      have heq := hsw.2.2.2.2 hsat
      rw [bI_t (show (0 ≤ o i ∧ o i ≤ 31) ∧ ¬ S.1 (o i) = -2 ∧ ¬ S.1 (o i) = -1 from by omega)]
      refine aw_tree (I0_ok X _) [(true, 49)] [22] rfl ?_
      dsimp only
      repeat' (first | refine And.intro ?_ ?_ | (refine aImp_e0 ?_; intro _) | (refine aImp_n0 ?_; intro _) | (refine aImp_i ?_; intro _))
      all_goals (try (first | omega | exact bI_01 _ | exact bI_lo _ | exact bI_hi _ | exact bI_hi' _ | exact trivial | exact Or.inl rfl | exact Or.inr rfl | (exfalso; omega)))
      refine fin (S.1 (o i)) (S.2.1 (o i)) (G.2.2.2.2.2.1 (o i) * 64 + P.2.2.2.2.2.2.2.2.2.1) _ (Or.inl ⟨hlt, heq.1, heq.2⟩) (by omega) ?_
      rw [hdO, hgv.2.2.2.1, hmp]
      unfold mvM
      rcases han with rfl | rfl
      · rw [cif_t rfl]; omega
      · rw [cif_f (show ¬ (1 : Int) = 0 from by omega), cif_t rfl, cif_t hlt]; omega
    · have hlt : ¬ rw' (o i) < 6 := fun k => hsat (hsw.2.2.2.1.mpr k)
      rw [bI_f (show ¬ ((0 ≤ o i ∧ o i ≤ 31) ∧ ¬ S.1 (o i) = -2 ∧ ¬ S.1 (o i) = -1) from by omega)]
      refine aw_tree (I0_ok X _) [(true, 49)] [22] rfl ?_
      dsimp only
      repeat' (first | refine And.intro ?_ ?_ | (refine aImp_e0 ?_; intro _) | (refine aImp_n0 ?_; intro _) | (refine aImp_i ?_; intro _))
      all_goals (try (first | omega | exact bI_01 _ | exact bI_lo _ | exact bI_hi _ | exact bI_hi' _ | exact trivial | exact Or.inl rfl | exact Or.inr rfl | (exfalso; omega)))
      refine fin (-1) (-1) (G.2.2.2.2.2.1 (o i) * 64 + 0) _ (Or.inr ⟨hlt, rfl, rfl⟩) (by omega) ?_
      rw [hdO, hgv.2.2.2.1]
      unfold mvM
      rcases han with rfl | rfl
      · rw [cif_t rfl]; omega
      · rw [cif_f (show ¬ (1 : Int) = 0 from by omega), cif_t rfl, cif_f hlt]; omega
theorem c_prepare0 {X : AX} (d : Nat) (sb ss : Nat) (T : TyT) (G : TyG) (L : TyL) (O : TyO) (R : TyR) (P : TyP) (C : TyC) (B D : TyB) (S N : TyS) (t : AH) (mG : TyMG) (mR : TyMR) (o rw' pw : FN) (n an : Int) {Q : AQ} (hG : kG mG) (hv : rGv G mG) (hb : rGb G mG) (han : an = 0 ∨ an = 1) (hn : 0 ≤ n ∧ n ≤ 32) (hO : O.2 = n) (ho : ∀ i, 0 ≤ i → i < n → O.1 i = o i ∧ 0 ≤ o i ∧ o i < mG.2.2.2) (hS : rSw S rw' pw)
    (hQ : ∀ P : TyP, rPj P (DM mG mR o n rw' pw an) o 0 → rPa P o rw' pw n 0 → Q none (CH sb ss T G L O R P C B D S N t)) :
    AW X (d + 5) 0 0 24 0 (aEntry 24 [rf 17, rf 3, rf 14, rf 41, iv an]) [] (CH sb ss T G L O R P C B D S N t) Q := by
  have main : ∀ mp : Int, mp = an → AW X (d + 5) 0 0 24 22 [rf 17, rf 3, rf 14, rf 41, iv an, iv (O.2 - 1), jk, jk] [] (CH sb ss T G L O R (P.1, P.2.1, P.2.2.1, P.2.2.2.1, P.2.2.2.2.1, P.2.2.2.2.2.1, P.2.2.2.2.2.2.1, aUp P.2.2.2.2.2.2.2.1 O.2 0, O.2, mp, P.2.2.2.2.2.2.2.2.2.2) C B D S N t) Q := by
    intro mp hmp
    refine c_prep_loop0 d sb ss T G L O R C B D S N t mG mR o rw' pw n an hG hv hb han hn ho hS hQ n.toNat (O.2 - 1) _ jk jk (by omega) (by omega) hmp ⟨hO, fun i i0 i1 => ?_, fun i i0 i1 => ?_, fun i k i0 i1 i2 => ?_, by dsimp only; omega, fun i r p i0 i1 => ?_, fun i i0 i1 => ?_, fun i i0 i1 => ?_⟩ (fun i i0 i1 => by omega)
    · have : i < n := i1
      omega
    · have : i < n := i1
      omega
    · have : k < n := i2
      omega
    · have : i < n := i1
      omega
    · have h1 : i ≤ n := i1
      have e : i = O.2 := by omega
      dsimp only
      rw [e, aUp_s]
      have : (dN (DM mG mR o n rw' pw an) - O.2).toNat = 0 := by
        show (n - O.2).toNat = 0
        omega
      rw [this, nob]
    · have : i < n := i1
      omega
  refine aw_tree (I0_ok X _) [(true, 49)] [22] rfl ?_
  dsimp only
  repeat' (first | refine And.intro ?_ ?_ | (refine aImp_e0 ?_; intro _) | (refine aImp_n0 ?_; intro _) | (refine aImp_i ?_; intro _))
  all_goals (try (first | omega | exact bI_01 _ | exact bI_lo _ | exact bI_hi _ | exact bI_hi' _ | exact trivial | exact Or.inl rfl | exact Or.inr rfl | (exfalso; omega)))
  · exact main 0 (by omega)
  · exact main 1 (by omega)
set_option maxRecDepth 100000 in
theorem c_prep_loop1 {X : AX} (d : Nat) (sb ss : Nat) (T : TyT) (G : TyG) (L : TyL) (O : TyO) (R : TyR) (C : TyC) (B D : TyB) (S N : TyS) (t : AH) (mG : TyMG) (mR : TyMR) (o rw' pw : FN) (n an : Int) {Q : AQ} (hG : kG mG) (hv : rGv G mG) (hb : rGb G mG) (han : an = 0 ∨ an = 1) (hn : 0 ≤ n ∧ n ≤ 32) (ho : ∀ i, 0 ≤ i → i < n → O.1 i = o i ∧ 0 ≤ o i ∧ o i < mG.2.2.2) (hS : rSw N rw' pw)
    (hQ : ∀ P : TyP, rPj P (DM mG mR o n rw' pw an) o 0 → rPa P o rw' pw n 0 → Q none (CH sb ss T G L O R P C B D S N t)) :
    ∀ (m : Nat) (i : Int) (P : TyP) (v6 v7 : AV), i + 1 = m → i < n → P.2.2.2.2.2.2.2.2.2.1 = an → rPj P (DM mG mR o n rw' pw an) o (i + 1) → rPa P o rw' pw n (i + 1) → AW X (d + 5) 0 0 24 22 [rf 17, rf 3, rf 14, rf 45, iv an, iv i, v6, v7] [] (CH sb ss T G L O R P C B D S N t) Q := by
  have hg32 := hG.1
  intro m
  induction m with
  | zero =>
    intro i P v6 v7 hm hi hmp hP hPa
    have e : i + 1 = 0 := by omega
    rw [e] at hP hPa
    refine aw_tree (I0_ok X _) [(true, 49)] [22] rfl ?_
    repeat' (first | refine And.intro ?_ ?_ | (refine aImp_e0 ?_; intro _) | (refine aImp_n0 ?_; intro _) | (refine aImp_i ?_; intro _))
    all_goals (try (first | omega | exact bI_01 _ | exact bI_lo _ | exact bI_hi _ | exact bI_hi' _ | exact trivial | exact Or.inl rfl | exact Or.inr rfl | (exfalso; omega)))
    exact hQ P hP hPa
  | succ m ih =>
    intro i P v6 v7 hm hi hmp hP hPa
    obtain ⟨q1, q2, q3, q4, q5, q6, q7, q8⟩ := hP
    have q1' : P.2.2.2.2.2.2.2.2.1 = n := q1
    have ho1 := ho i (by omega) hi
    have hsw := hS (o i) ho1.2.1 (by omega)
    have hgv := hv.2.1 (o i) ho1.2.1 (by omega)
    have g2 := hG.2.2.1 (o i) ho1.2.1 (by omega)
    have g1 := hG.2.1 (6 * o i + 3)
    have hdO : dO (DM mG mR o n rw' pw an) i = 64 * mG.1 (6 * o i + 3) + mvM rw' pw an (o i) 6 0 := rfl
    have hdW : dW (DM mG mR o n rw' pw an) i = mG.1 (6 * o i + 4) := rfl
    refine aw_tree (I0_ok X _) [(true, 49)] [22] rfl ?_
    rw [ho1.1]
    repeat' (first | refine And.intro ?_ ?_ | (refine aImp_e0 ?_; intro _) | (refine aImp_n0 ?_; intro _) | (refine aImp_i ?_; intro _))
    all_goals (try (first | omega | exact bI_01 _ | exact bI_lo _ | exact bI_hi _ | exact bI_hi' _ | exact trivial | exact Or.inl rfl | exact Or.inr rfl | (exfalso; omega)))
    refine aw_cf0 (c_isSeated1 _ sb ss T G L O R P C B D S N t (o i) (by unfold inR; omega) (by unfold inR; omega)) rfl ?_
    -- what stands there afterwards
    have fin : ∀ (ar ap out : Int) (v7 : AV), ((rw' (o i) < 6 ∧ ar = rw' (o i) ∧ ap = pw (o i)) ∨ (¬ rw' (o i) < 6 ∧ ar = -1 ∧ ap = -1)) → (-1 ≤ ar ∧ ar ≤ 5) ∧ (-1 ≤ ap ∧ ap ≤ 40) → out = dO (DM mG mR o n rw' pw an) i → AW X (d + 5) 0 0 24 105 [rf 17, rf 3, rf 14, rf 45, iv an, iv i, iv (o i), v7] [rf 3, iv i, rf 17] (CH sb ss T G L O R (aUp P.1 i (o i), aUp P.2.1 i (G.2.2.2.1 (o i)), aUp P.2.2.1 i out, P.2.2.2.1, P.2.2.2.2.1, aUp P.2.2.2.2.2.1 i ar, aUp P.2.2.2.2.2.2.1 i ap, aUp P.2.2.2.2.2.2.2.1 i (P.2.2.2.2.2.2.2.1 (i + 1) + aUp P.2.2.1 i out i), P.2.2.2.2.2.2.2.2) C B D S N t) Q := by
      intro ar ap out v7 har hrr hout
      refine aw_ck0 (c_noteBars _ sb ss T G L O R (aUp P.1 i (o i), aUp P.2.1 i (G.2.2.2.1 (o i)), aUp P.2.2.1 i out, P.2.2.2.1, P.2.2.2.2.1, aUp P.2.2.2.2.2.1 i ar, aUp P.2.2.2.2.2.2.1 i ap, aUp P.2.2.2.2.2.2.2.1 i (P.2.2.2.2.2.2.2.1 (i + 1) + aUp P.2.2.1 i out i), P.2.2.2.2.2.2.2.2) C B D S N t mG i n hb ⟨q1, by omega⟩ (by omega) (fun j j0 j1 => ?_) (fun b l hb1 hb2 hb3 => ?_)) rfl
      · dsimp only
        have hoj := ho j (by omega) j1
        by_cases e : j = i
        · rw [e, aUp_s]; omega
        · rw [aUp_n _ _ e, (q2 j (by omega) j1).1]; omega
      · dsimp only at hb1 hb3
        have hgi : ∀ k, i < k → k < n → aUp P.1 i (o i) k = o k := fun k k0 k1 => by
          rw [aUp_n _ _ (by omega), (q2 k (by omega) k1).1]
        rw [aUp_s] at hb1 hb3
        have goal := ih (i + -1) (pBL (aUp P.1 i (o i), aUp P.2.1 i (G.2.2.2.1 (o i)), aUp P.2.2.1 i out, P.2.2.2.1, P.2.2.2.2.1, aUp P.2.2.2.2.2.1 i ar, aUp P.2.2.2.2.2.2.1 i ap, aUp P.2.2.2.2.2.2.2.1 i (P.2.2.2.2.2.2.2.1 (i + 1) + aUp P.2.2.1 i out i), P.2.2.2.2.2.2.2.2) (aUp P.2.2.2.1 i b) (aUp P.2.2.2.2.1 i l)) (iv (o i)) v7 (by omega) (by omega) hmp
        rw [show i + -1 + 1 = i from by omega] at goal
        have hstep : rPj (pBL (aUp P.1 i (o i), aUp P.2.1 i (G.2.2.2.1 (o i)), aUp P.2.2.1 i out, P.2.2.2.1, P.2.2.2.2.1, aUp P.2.2.2.2.2.1 i ar, aUp P.2.2.2.2.2.2.1 i ap, aUp P.2.2.2.2.2.2.2.1 i (P.2.2.2.2.2.2.2.1 (i + 1) + aUp P.2.2.1 i out i), P.2.2.2.2.2.2.2.2) (aUp P.2.2.2.1 i b) (aUp P.2.2.2.2.1 i l)) (DM mG mR o n rw' pw an) o i := by
          refine ⟨q1, fun j j0 j1 => ?_, fun j j0 j1 => ?_, fun j k j0 j1 j2 => ?_, q5, fun j r p j0 j1 r0 r1 => ?_, fun j j0 j1 => ?_, fun j j0 j1 => ?_⟩
          · dsimp only
            by_cases e : j = i
            · rw [e, aUp_s, aUp_s, aUp_s]; exact ⟨rfl, by rw [hdW]; exact hgv.2.2.2.2.1, hout⟩
            · rw [aUp_n _ _ e, aUp_n _ _ e, aUp_n _ _ e]; exact q2 j (by omega) j1
          · dsimp only
            by_cases e : j = i
            · rw [e, aUp_s]
              refine ⟨hb2, fun k k0 k1 k2 hk => ?_⟩
              have := hb3 k k0 k1 k2
              rw [hgi k k0 k1] at this
              exact hk.2 this
            · rw [aUp_n _ _ e]; exact q3 j (by omega) j1
          · dsimp only
            by_cases e : j = i
            · rw [e, aUp_s]
              rw [e] at j1
              have := hb1 k j1 j2
              rw [hgi k j1 j2] at this
              rw [this]
              exact ⟨fun h => ⟨by omega, h⟩, fun h => h.2⟩
            · rw [aUp_n _ _ e]; exact q4 j k (by omega) j1 j2
          · dsimp only
            by_cases e : j = i
            · rw [e, aUp_s, aUp_s, hmp]
              exact mv_eq han ⟨r0, r1⟩ har
            · rw [aUp_n _ _ e, aUp_n _ _ e]; exact q6 j r p (by omega) j1 r0 r1
          · dsimp only
            by_cases e : j = i
            · have hq7 := q7 (i + 1) (by omega) (by show i + 1 ≤ n; omega)
              rw [e, aUp_s, aUp_s, hq7, hout]
              have e1 : (dN (DM mG mR o n rw' pw an) - i).toNat = (dN (DM mG mR o n rw' pw an) - (i + 1)).toNat + 1 := by
                show (n - i).toNat = (n - (i + 1)).toNat + 1
                omega
              rw [e1, nob]
              have e2 : dN (DM mG mR o n rw' pw an) - (((dN (DM mG mR o n rw' pw an) - (i + 1)).toNat : Int) + 1) = i := by
                show n - (((n - (i + 1)).toNat : Int) + 1) = i
                omega
              rw [e2]
            · rw [aUp_n _ _ e]; exact q7 j (by omega) j1
          · dsimp only
            by_cases e : j = i
            · rw [e, aUp_s, aUp_s]; unfold inR; omega
            · rw [aUp_n _ _ e, aUp_n _ _ e]; exact q8 j (by omega) j1
        refine aw_tree (I0_ok X _) [(true, 49)] [22] rfl ?_
        refine goal hstep (fun j j0 j1 => ?_)
        dsimp only
        by_cases e : j = i
        · rw [e, aUp_s, aUp_s]; exact har
        · rw [aUp_n _ _ e, aUp_n _ _ e]; exact hPa j (by omega) j1
    by_cases hsat : 0 ≤ N.1 (o i)
    · have hlt := hsw.2.2.2.1.mp hsat
      have heq := hsw.2.2.2.2 hsat
      rw [bI_t (show (0 ≤ o i ∧ o i ≤ 31) ∧ ¬ N.1 (o i) = -2 ∧ ¬ N.1 (o i) = -1 from by omega)]
      refine aw_tree (I0_ok X _) [(true, 49)] [22] rfl ?_
      dsimp only
      repeat' (first | refine And.intro ?_ ?_ | (refine aImp_e0 ?_; intro _) | (refine aImp_n0 ?_; intro _) | (refine aImp_i ?_; intro _))
      all_goals (try (first | omega | exact bI_01 _ | exact bI_lo _ | exact bI_hi _ | exact bI_hi' _ | exact trivial | exact Or.inl rfl | exact Or.inr rfl | (exfalso; omega)))
      refine fin (N.1 (o i)) (N.2.1 (o i)) (G.2.2.2.2.2.1 (o i) * 64 + P.2.2.2.2.2.2.2.2.2.1) _ (Or.inl ⟨hlt, heq.1, heq.2⟩) (by omega) ?_
      rw [hdO, hgv.2.2.2.1, hmp]
      unfold mvM
      rcases han with rfl | rfl
      · rw [cif_t rfl]; omega
      · rw [cif_f (show ¬ (1 : Int) = 0 from by omega), cif_t rfl, cif_t hlt]; omega
    · have hlt : ¬ rw' (o i) < 6 := fun k => hsat (hsw.2.2.2.1.mpr k)
      rw [bI_f (show ¬ ((0 ≤ o i ∧ o i ≤ 31) ∧ ¬ N.1 (o i) = -2 ∧ ¬ N.1 (o i) = -1) from by omega)]
      refine aw_tree (I0_ok X _) [(true, 49)] [22] rfl ?_
      dsimp only
      repeat' (first | refine And.intro ?_ ?_ | (refine aImp_e0 ?_; intro _) | (refine aImp_n0 ?_; intro _) | (refine aImp_i ?_; intro _))
      all_goals (try (first | omega | exact bI_01 _ | exact bI_lo _ | exact bI_hi _ | exact bI_hi' _ | exact trivial | exact Or.inl rfl | exact Or.inr rfl | (exfalso; omega)))
      refine fin (-1) (-1) (G.2.2.2.2.2.1 (o i) * 64 + 0) _ (Or.inr ⟨hlt, rfl, rfl⟩) (by omega) ?_
      rw [hdO, hgv.2.2.2.1]
      unfold mvM
      rcases han with rfl | rfl
      · rw [cif_t rfl]; omega
      · rw [cif_f (show ¬ (1 : Int) = 0 from by omega), cif_t rfl, cif_f hlt]; omega
theorem c_prepare1 {X : AX} (d : Nat) (sb ss : Nat) (T : TyT) (G : TyG) (L : TyL) (O : TyO) (R : TyR) (P : TyP) (C : TyC) (B D : TyB) (S N : TyS) (t : AH) (mG : TyMG) (mR : TyMR) (o rw' pw : FN) (n an : Int) {Q : AQ} (hG : kG mG) (hv : rGv G mG) (hb : rGb G mG) (han : an = 0 ∨ an = 1) (hn : 0 ≤ n ∧ n ≤ 32) (hO : O.2 = n) (ho : ∀ i, 0 ≤ i → i < n → O.1 i = o i ∧ 0 ≤ o i ∧ o i < mG.2.2.2) (hS : rSw N rw' pw)
    (hQ : ∀ P : TyP, rPj P (DM mG mR o n rw' pw an) o 0 → rPa P o rw' pw n 0 → Q none (CH sb ss T G L O R P C B D S N t)) :
    AW X (d + 5) 0 0 24 0 (aEntry 24 [rf 17, rf 3, rf 14, rf 45, iv an]) [] (CH sb ss T G L O R P C B D S N t) Q := by
  have main : ∀ mp : Int, mp = an → AW X (d + 5) 0 0 24 22 [rf 17, rf 3, rf 14, rf 45, iv an, iv (O.2 - 1), jk, jk] [] (CH sb ss T G L O R (P.1, P.2.1, P.2.2.1, P.2.2.2.1, P.2.2.2.2.1, P.2.2.2.2.2.1, P.2.2.2.2.2.2.1, aUp P.2.2.2.2.2.2.2.1 O.2 0, O.2, mp, P.2.2.2.2.2.2.2.2.2.2) C B D S N t) Q := by
    intro mp hmp
    refine c_prep_loop1 d sb ss T G L O R C B D S N t mG mR o rw' pw n an hG hv hb han hn ho hS hQ n.toNat (O.2 - 1) _ jk jk (by omega) (by omega) hmp ⟨hO, fun i i0 i1 => ?_, fun i i0 i1 => ?_, fun i k i0 i1 i2 => ?_, by dsimp only; omega, fun i r p i0 i1 => ?_, fun i i0 i1 => ?_, fun i i0 i1 => ?_⟩ (fun i i0 i1 => by omega)
    · have : i < n := i1
      omega
    · have : i < n := i1
      omega
    · have : k < n := i2
      omega
    · have : i < n := i1
      omega
    · have h1 : i ≤ n := i1
      have e : i = O.2 := by omega
      dsimp only
      rw [e, aUp_s]
      have : (dN (DM mG mR o n rw' pw an) - O.2).toNat = 0 := by
        show (n - O.2).toNat = 0
        omega
      rw [this, nob]
    · have : i < n := i1
      omega
  refine aw_tree (I0_ok X _) [(true, 49)] [22] rfl ?_
  dsimp only
  repeat' (first | refine And.intro ?_ ?_ | (refine aImp_e0 ?_; intro _) | (refine aImp_n0 ?_; intro _) | (refine aImp_i ?_; intro _))
  all_goals (try (first | omega | exact bI_01 _ | exact bI_lo _ | exact bI_hi _ | exact bI_hi' _ | exact trivial | exact Or.inl rfl | exact Or.inr rfl | (exfalso; omega)))
  · exact main 0 (by omega)
  · exact main 1 (by omega)

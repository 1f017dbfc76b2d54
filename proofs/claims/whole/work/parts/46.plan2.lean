theorem VV_decI {V : DP} (h : kD V) {i : Int} (hi : 0 ≤ i ∧ i < dN V) (b : Int → Prop) (r u : Int) (hr : 0 ≤ r ∧ r < dR V) :
    VV V (dN V - i).toNat b r u = min (min (VV V (dN V - i).toNat (fun _ => False) (r + 1) 0) (dO V i + VV V (dN V - (i + 1)).toNat b r u))
      (cif (u + cif (b i) (dF V) 0 + dW V i ≤ dX V r) (VV V (dN V - (i + 1)).toNat (dB V i) r (u + cif (b i) (dF V) 0 + dW V i) + dM V i r (u + cif (b i) (dF V) 0) + cif (b i) (64 * dE V) 0) 1000000000) := by
  have e : (dN V - i).toNat = (dN V - (i + 1)).toNat + 1 := by omega
  have e2 : dN V - (((dN V - (i + 1)).toNat : Int) + 1) = i := by omega
  have := VV_dec h (dN V - (i + 1)).toNat b r u (by omega) hr
  rw [e2] at this
  rw [e]
  exact this
theorem c_pb_loop0 {X : AX} (d : Nat) (sb ss : Nat) (T : TyT) (G : TyG) (L : TyL) (O : TyO) (R : TyR) (P : TyP) (C : TyC) (B D : TyB) (S N : TyS) (bm : AC24) (bt : List TyBn) (x : TyBn) (V : DP) (fr l e ub : Int) {Q : AQ} (hV : kD V) (hP : rP P V) (hx : x.1 = 0 ∧ (0 ≤ x.2.1 ∧ x.2.1 ≤ 40) ∧ x.2.1 = dX V 0 ∧ 0 < dR V) (hf : 0 ≤ fr ∧ fr ≤ dN V) (hl : -1 ≤ l ∧ l < fr) (he : 0 ≤ e ∧ e ≤ x.2.1) (hA : tA V 0 x fr) (hH : tH V 0 x fr)
    (hQ : Q (some (iv (VV V (dN V - fr).toNat (dB V l) 0 e))) (CH sb ss T G L O R P C B D S N (MV bm (BH 73 (x :: bt))))) :
    ∀ (m : Nat) (i : Int) (v8 v9 : AV), i + 1 = fr + m → i < dN V → AW X (d + 5) 0 0 30 26 [rf 17, rf 73, iv fr, iv l, iv e, iv ub, iv (VV V (dN V - (i + 1)).toNat (dB V l) 0 e), iv i, v8, v9] [] (CH sb ss T G L O R P C B D S N (MV bm (BH 73 (x :: bt)))) Q := by
  have hP' := hP
  obtain ⟨p1, p2, p3, p4, p5, p6, p7, p8, p9, p10⟩ := hP'
  have hn := hV.1
  have hF := hV.2.2.2.2.2.2.1
  have hE := hV.2.2.2.2.2.2.2
  intro m
  induction m with
  | zero =>
    intro i v8 v9 hm hi
    have ei : i + 1 = fr := by omega
    rw [ei]
    refine aw_tree (I1_ok X _) [(true, 49), (false, 24), (true, 4)] [26] rfl ?_
    dsimp only
    repeat' (first | refine And.intro ?_ ?_ | (refine aImp_e0 ?_; intro _) | (refine aImp_n0 ?_; intro _) | (refine aImp_i ?_; intro _))
    all_goals (try (first | omega | exact bI_01 _ | exact bI_lo _ | exact bI_hi _ | exact bI_hi' _ | exact trivial | exact Or.inl rfl | exact Or.inr rfl | (exfalso; omega)))
    exact hQ
  | succ m ih =>
    intro i v8 v9 hm hi
    have hw := hV.2.2.1 i (by omega) hi
    have ho := hV.2.1 i (by omega) hi
    have hpi := p2 i (by omega) hi
    have hbh := hH i (by omega) hi
    have hdec := VV_decI hV (i := i) (by omega) (dB V l) 0 e (by omega)
    have v1 := VV_r hV (dN V - (i + 1)).toNat (dB V l) 0 e (by omega)
    have v2 := VV_r hV (dN V - i).toNat (fun _ => False) (0 + 1) 0 (by omega)
    have hm2 := hV.2.2.2.1 i 0 (e + cif (dB V l i) (dF V) 0)
    have v3 := VV_r hV (dN V - (i + 1)).toNat (dB V i) 0 (e + cif (dB V l i) (dF V) 0 + dW V i) (by omega)
    have v4 := VV_r hV (dN V - i).toNat (dB V l) 0 e (by omega)
    have goal := fun v8 v9 => ih (i - 1) v8 v9 (by omega) (by omega)
    rw [show i - 1 + 1 = i from by omega] at goal
    rw [← hpi.1] at hw
    rw [← hpi.2] at ho
    generalize hg1 : VV V (dN V - (i + 1)).toNat (dB V l) 0 e = W1 at *
    generalize hg2 : VV V (dN V - i).toNat (dB V l) 0 e = W0 at *
    refine aw_tree (I1_ok X _) [(true, 49), (false, 24), (true, 4)] [26] rfl ?_
    dsimp only
    repeat' (first | refine And.intro ?_ ?_ | (refine aImp_e0 ?_; intro _) | (refine aImp_n0 ?_; intro _) | (refine aImp_i ?_; intro _))
    all_goals (try (first | omega | exact bI_01 _ | exact bI_lo _ | exact bI_hi _ | exact bI_hi' _ | exact trivial | exact Or.inl rfl | exact Or.inr rfl | (exfalso; omega)))
    refine aw_cf0 (c_pBarred _ sb ss T G L O R P C B D S N (MV bm (BH 73 (x :: bt))) l i V hP (by omega) hi (by omega)) rfl ?_
    by_cases hb : dB V l i
    · rw [bI_t hb]
      rw [cif_t hb, cif_t hb] at hdec
      rw [cif_t hb] at hm2 v3
      have hF' := hF
      rw [← p8.1] at hdec hm2 v3 hF'
      by_cases hfit : e + P.2.2.2.2.2.2.2.2.2.2.1 + dW V i ≤ dX V 0
      · rw [cif_t hfit] at hdec
        have hAi := hA i (e + P.2.2.2.2.2.2.2.2.2.2.1) (by omega) hi (by omega) (by omega)
        have goal2 := goal (iv 1) (iv (e + P.2.2.2.2.2.2.2.2.2.2.1))
        refine aw_tree (I1_ok X _) [(true, 49), (false, 24), (true, 4)] [26] rfl ?_
        dsimp only
        repeat' (first | refine And.intro ?_ ?_ | (refine aImp_e0 ?_; intro _) | (refine aImp_n0 ?_; intro _) | (refine aImp_i ?_; intro _))
        all_goals (try (first | omega | exact bI_01 _ | exact bI_lo _ | exact bI_hi _ | exact bI_hi' _ | exact trivial | exact Or.inl rfl | exact Or.inr rfl | (exfalso; omega)))
        refine aw_cf0 (c_sitPrice0 _ sb ss T G L O R P C B D S N bm bt x V i (e + P.2.2.2.2.2.2.2.2.2.2.1) hV hP ⟨hx.1, hx.2.1⟩ (by omega) (by omega) hAi) rfl ?_
        refine aw_tree (I1_ok X _) [(true, 49), (false, 24), (true, 4)] [26] rfl ?_
        dsimp only
        repeat' (first | refine And.intro ?_ ?_ | (refine aImp_e0 ?_; intro _) | (refine aImp_n0 ?_; intro _) | (refine aImp_i ?_; intro _))
        all_goals (try (first | omega | exact bI_01 _ | exact bI_lo _ | exact bI_hi _ | exact bI_hi' _ | exact trivial | exact Or.inl rfl | exact Or.inr rfl | (exfalso; omega)))
        have em : min (min (x.2.2.2.2.2.2 i) (P.2.2.1 i + W1)) (VV V (dN V - (i + 1)).toNat (dB V i) 0 (e + P.2.2.2.2.2.2.2.2.2.2.1 + dW V i) + dM V i 0 (e + P.2.2.2.2.2.2.2.2.2.2.1) + P.2.2.2.2.2.2.2.2.2.2.2.1) = W0 := by
          rw [hdec, hbh, hpi.2, p8.2]
        rw [em]
        exact goal2
      · rw [cif_f hfit] at hdec
        have goal2 := goal (iv 1) (iv (e + P.2.2.2.2.2.2.2.2.2.2.1))
        refine aw_tree (I1_ok X _) [(true, 49), (false, 24), (true, 4)] [26] rfl ?_
        dsimp only
        repeat' (first | refine And.intro ?_ ?_ | (refine aImp_e0 ?_; intro _) | (refine aImp_n0 ?_; intro _) | (refine aImp_i ?_; intro _))
        all_goals (try (first | omega | exact bI_01 _ | exact bI_lo _ | exact bI_hi _ | exact bI_hi' _ | exact trivial | exact Or.inl rfl | exact Or.inr rfl | (exfalso; omega)))
        have em : min (x.2.2.2.2.2.2 i) (P.2.2.1 i + W1) = W0 := by
          rw [hbh, hpi.2]
          omega
        rw [em]
        exact goal2
    · rw [bI_f hb]
      rw [cif_f hb, cif_f hb, Int.add_zero, Int.add_zero] at hdec
      rw [cif_f hb, Int.add_zero] at hm2 v3
      by_cases hfit : e + dW V i ≤ dX V 0
      · rw [cif_t hfit] at hdec
        have hAi := hA i e (by omega) hi (by omega) (by omega)
        have goal2 := goal (iv 0) (iv e)
        refine aw_tree (I1_ok X _) [(true, 49), (false, 24), (true, 4)] [26] rfl ?_
        dsimp only
        repeat' (first | refine And.intro ?_ ?_ | (refine aImp_e0 ?_; intro _) | (refine aImp_n0 ?_; intro _) | (refine aImp_i ?_; intro _))
        all_goals (try (first | omega | exact bI_01 _ | exact bI_lo _ | exact bI_hi _ | exact bI_hi' _ | exact trivial | exact Or.inl rfl | exact Or.inr rfl | (exfalso; omega)))
        refine aw_cf0 (c_sitPrice0 _ sb ss T G L O R P C B D S N bm bt x V i e hV hP ⟨hx.1, hx.2.1⟩ (by omega) (by omega) hAi) rfl ?_
        refine aw_tree (I1_ok X _) [(true, 49), (false, 24), (true, 4)] [26] rfl ?_
        dsimp only
        repeat' (first | refine And.intro ?_ ?_ | (refine aImp_e0 ?_; intro _) | (refine aImp_n0 ?_; intro _) | (refine aImp_i ?_; intro _))
        all_goals (try (first | omega | exact bI_01 _ | exact bI_lo _ | exact bI_hi _ | exact bI_hi' _ | exact trivial | exact Or.inl rfl | exact Or.inr rfl | (exfalso; omega)))
        have em : min (min (x.2.2.2.2.2.2 i) (P.2.2.1 i + W1)) (VV V (dN V - (i + 1)).toNat (dB V i) 0 (e + dW V i) + dM V i 0 e + 0) = W0 := by
          rw [hdec, hbh, hpi.2, Int.add_zero]
        rw [em]
        exact goal2
      · rw [cif_f hfit] at hdec
        have goal2 := goal (iv 0) (iv e)
        refine aw_tree (I1_ok X _) [(true, 49), (false, 24), (true, 4)] [26] rfl ?_
        dsimp only
        repeat' (first | refine And.intro ?_ ?_ | (refine aImp_e0 ?_; intro _) | (refine aImp_n0 ?_; intro _) | (refine aImp_i ?_; intro _))
        all_goals (try (first | omega | exact bI_01 _ | exact bI_lo _ | exact bI_hi _ | exact bI_hi' _ | exact trivial | exact Or.inl rfl | exact Or.inr rfl | (exfalso; omega)))
        have em : min (x.2.2.2.2.2.2 i) (P.2.2.1 i + W1) = W0 := by
          rw [hbh, hpi.2]
          omega
        rw [em]
        exact goal2
theorem c_priceBeside0 {X : AX} (d : Nat) (sb ss : Nat) (T : TyT) (G : TyG) (L : TyL) (O : TyO) (R : TyR) (P : TyP) (C : TyC) (B D : TyB) (S N : TyS) (bm : AC24) (bt : List TyBn) (x : TyBn) (V : DP) (fr l e : Int) (hV : kD V) (hP : rP P V) (hx : x.1 = 0 ∧ (0 ≤ x.2.1 ∧ x.2.1 ≤ 40) ∧ x.2.1 = dX V 0 ∧ 0 < dR V) (hf : 0 ≤ fr ∧ fr ≤ dN V) (hl : -1 ≤ l ∧ l < fr) (he : 0 ≤ e ∧ e ≤ x.2.1) (hR : tR V 0 x fr) (hA : tA V 0 x fr) (hH : tH V 0 x fr) :
    AF X (d + 5) 0 0 30 [rf 17, rf 73, iv fr, iv l, iv e] (CH sb ss T G L O R P C B D S N (MV bm (BH 73 (x :: bt)))) (some (iv (VV V (dN V - fr).toNat (dB V l) 0 e))) (CH sb ss T G L O R P C B D S N (MV bm (BH 73 (x :: bt)))) := by
  have hP' := hP
  obtain ⟨p1, p2, p3, p4, p5, p6, p7, p8, p9, p10⟩ := hP'
  have hn := hV.1
  have go : ∀ ub : Int, fr ≤ ub → ub ≤ dN V → (∀ j, ub ≤ j → j < dN V → ¬ dB V l j) → AW X (d + 5) 0 0 30 13 [rf 17, rf 73, iv fr, iv l, iv e, jk, jk, jk, jk, jk] [iv ub] (CH sb ss T G L O R P C B D S N (MV bm (BH 73 (x :: bt)))) (fun r' h'' => r' = some (iv (VV V (dN V - fr).toNat (dB V l) 0 e)) ∧ h'' = (CH sb ss T G L O R P C B D S N (MV bm (BH 73 (x :: bt))))) := by
    intro ub hub hub2 hno
    have hs := slot_b (n := 33) (w := x.2.1) (i := ub) (u := e) (by omega) (by omega) he
    have hr := hR ub e hub hub2 he.1 he.2
    have hcg := VV_congr (D := V) (dN V - ub).toNat (fun _ => False) (dB V l) 0 e (fun j j0 j1 => ⟨fun k => k.elim, fun k => hno j (by omega) j1 k⟩)
    refine aw_tree (I1_ok X _) [(true, 49), (false, 24), (true, 4)] [26] rfl ?_
    dsimp only
    repeat' (first | refine And.intro ?_ ?_ | (refine aImp_e0 ?_; intro _) | (refine aImp_n0 ?_; intro _) | (refine aImp_i ?_; intro _))
    all_goals (try (first | omega | exact bI_01 _ | exact bI_lo _ | exact bI_hi _ | exact bI_hi' _ | exact trivial | exact Or.inl rfl | exact Or.inr rfl | (exfalso; omega)))
    rw [hr, hcg]
    have goal := c_pb_loop0 (X := X) d sb ss T G L O R P C B D S N bm bt x V fr l e ub (Q := fun r' h'' => r' = some (iv (VV V (dN V - fr).toNat (dB V l) 0 e)) ∧ h'' = (CH sb ss T G L O R P C B D S N (MV bm (BH 73 (x :: bt))))) hV hP hx hf hl he hA hH ⟨rfl, rfl⟩ (ub - fr).toNat (ub - 1) jk jk (by omega) (by omega)
    rw [show ub - 1 + 1 = ub from by omega] at goal
    exact goal
  by_cases h0 : l = -1
  · subst h0
    refine aw_tree (I1_ok X _) [(true, 49), (false, 24), (true, 4)] [13] rfl ?_
    dsimp only
    repeat' (first | refine And.intro ?_ ?_ | (refine aImp_e0 ?_; intro _) | (refine aImp_n0 ?_; intro _) | (refine aImp_i ?_; intro _))
    all_goals (try (first | omega | exact bI_01 _ | exact bI_lo _ | exact bI_hi _ | exact bI_hi' _ | exact trivial | exact Or.inl rfl | exact Or.inr rfl | (exfalso; omega)))
    exact go fr (by omega) (by omega) (fun j _ _ => p10 j)
  · have hlb := p3 l (by omega) (by omega)
    refine aw_tree (I1_ok X _) [(true, 49), (false, 24), (true, 4)] [13] rfl ?_
    dsimp only
    repeat' (first | refine And.intro ?_ ?_ | (refine aImp_e0 ?_; intro _) | (refine aImp_n0 ?_; intro _) | (refine aImp_i ?_; intro _))
    all_goals (try (first | omega | exact bI_01 _ | exact bI_lo _ | exact bI_hi _ | exact bI_hi' _ | exact trivial | exact Or.inl rfl | exact Or.inr rfl | (exfalso; omega)))
    refine go (max fr (P.2.2.2.2.1 l + 1)) (by omega) (by omega) (fun j j0 j1 => hlb.2 j (by omega) j1 (by omega))
theorem c_pb_loop1 {X : AX} (d : Nat) (sb ss : Nat) (T : TyT) (G : TyG) (L : TyL) (O : TyO) (R : TyR) (P : TyP) (C : TyC) (B D : TyB) (S N : TyS) (bm : AC24) (b0 : TyBn) (bt : List TyBn) (x : TyBn) (V : DP) (fr l e ub : Int) {Q : AQ} (hV : kD V) (hP : rP P V) (hx : x.1 = 1 ∧ (0 ≤ x.2.1 ∧ x.2.1 ≤ 40) ∧ x.2.1 = dX V 1 ∧ 1 < dR V) (hf : 0 ≤ fr ∧ fr ≤ dN V) (hl : -1 ≤ l ∧ l < fr) (he : 0 ≤ e ∧ e ≤ x.2.1) (hA : tA V 1 x fr) (hH : tH V 1 x fr)
    (hQ : Q (some (iv (VV V (dN V - fr).toNat (dB V l) 1 e))) (CH sb ss T G L O R P C B D S N (MV bm (BH 73 (b0 :: x :: bt))))) :
    ∀ (m : Nat) (i : Int) (v8 v9 : AV), i + 1 = fr + m → i < dN V → AW X (d + 5) 0 0 30 26 [rf 17, rf 77, iv fr, iv l, iv e, iv ub, iv (VV V (dN V - (i + 1)).toNat (dB V l) 1 e), iv i, v8, v9] [] (CH sb ss T G L O R P C B D S N (MV bm (BH 73 (b0 :: x :: bt)))) Q := by
  have hP' := hP
  obtain ⟨p1, p2, p3, p4, p5, p6, p7, p8, p9, p10⟩ := hP'
  have hn := hV.1
  have hF := hV.2.2.2.2.2.2.1
  have hE := hV.2.2.2.2.2.2.2
  intro m
  induction m with
  | zero =>
    intro i v8 v9 hm hi
    have ei : i + 1 = fr := by omega
    rw [ei]
    refine aw_tree (I1_ok X _) [(true, 49), (false, 24), (true, 8)] [26] rfl ?_
    dsimp only
    repeat' (first | refine And.intro ?_ ?_ | (refine aImp_e0 ?_; intro _) | (refine aImp_n0 ?_; intro _) | (refine aImp_i ?_; intro _))
    all_goals (try (first | omega | exact bI_01 _ | exact bI_lo _ | exact bI_hi _ | exact bI_hi' _ | exact trivial | exact Or.inl rfl | exact Or.inr rfl | (exfalso; omega)))
    exact hQ
  | succ m ih =>
    intro i v8 v9 hm hi
    have hw := hV.2.2.1 i (by omega) hi
    have ho := hV.2.1 i (by omega) hi
    have hpi := p2 i (by omega) hi
    have hbh := hH i (by omega) hi
    have hdec := VV_decI hV (i := i) (by omega) (dB V l) 1 e (by omega)
    have v1 := VV_r hV (dN V - (i + 1)).toNat (dB V l) 1 e (by omega)
    have v2 := VV_r hV (dN V - i).toNat (fun _ => False) (1 + 1) 0 (by omega)
    have hm2 := hV.2.2.2.1 i 1 (e + cif (dB V l i) (dF V) 0)
    have v3 := VV_r hV (dN V - (i + 1)).toNat (dB V i) 1 (e + cif (dB V l i) (dF V) 0 + dW V i) (by omega)
    have v4 := VV_r hV (dN V - i).toNat (dB V l) 1 e (by omega)
    have goal := fun v8 v9 => ih (i - 1) v8 v9 (by omega) (by omega)
    rw [show i - 1 + 1 = i from by omega] at goal
    rw [← hpi.1] at hw
    rw [← hpi.2] at ho
    generalize hg1 : VV V (dN V - (i + 1)).toNat (dB V l) 1 e = W1 at *
    generalize hg2 : VV V (dN V - i).toNat (dB V l) 1 e = W0 at *
    refine aw_tree (I1_ok X _) [(true, 49), (false, 24), (true, 8)] [26] rfl ?_
    dsimp only
    repeat' (first | refine And.intro ?_ ?_ | (refine aImp_e0 ?_; intro _) | (refine aImp_n0 ?_; intro _) | (refine aImp_i ?_; intro _))
    all_goals (try (first | omega | exact bI_01 _ | exact bI_lo _ | exact bI_hi _ | exact bI_hi' _ | exact trivial | exact Or.inl rfl | exact Or.inr rfl | (exfalso; omega)))
    refine aw_cf0 (c_pBarred _ sb ss T G L O R P C B D S N (MV bm (BH 73 (b0 :: x :: bt))) l i V hP (by omega) hi (by omega)) rfl ?_
    by_cases hb : dB V l i
    · rw [bI_t hb]
      rw [cif_t hb, cif_t hb] at hdec
      rw [cif_t hb] at hm2 v3
      have hF' := hF
      rw [← p8.1] at hdec hm2 v3 hF'
      by_cases hfit : e + P.2.2.2.2.2.2.2.2.2.2.1 + dW V i ≤ dX V 1
      · rw [cif_t hfit] at hdec
        have hAi := hA i (e + P.2.2.2.2.2.2.2.2.2.2.1) (by omega) hi (by omega) (by omega)
        have goal2 := goal (iv 1) (iv (e + P.2.2.2.2.2.2.2.2.2.2.1))
        refine aw_tree (I1_ok X _) [(true, 49), (false, 24), (true, 8)] [26] rfl ?_
        dsimp only
        repeat' (first | refine And.intro ?_ ?_ | (refine aImp_e0 ?_; intro _) | (refine aImp_n0 ?_; intro _) | (refine aImp_i ?_; intro _))
        all_goals (try (first | omega | exact bI_01 _ | exact bI_lo _ | exact bI_hi _ | exact bI_hi' _ | exact trivial | exact Or.inl rfl | exact Or.inr rfl | (exfalso; omega)))
        refine aw_cf0 (c_sitPrice1 _ sb ss T G L O R P C B D S N bm b0 bt x V i (e + P.2.2.2.2.2.2.2.2.2.2.1) hV hP ⟨hx.1, hx.2.1⟩ (by omega) (by omega) hAi) rfl ?_
        refine aw_tree (I1_ok X _) [(true, 49), (false, 24), (true, 8)] [26] rfl ?_
        dsimp only
        repeat' (first | refine And.intro ?_ ?_ | (refine aImp_e0 ?_; intro _) | (refine aImp_n0 ?_; intro _) | (refine aImp_i ?_; intro _))
        all_goals (try (first | omega | exact bI_01 _ | exact bI_lo _ | exact bI_hi _ | exact bI_hi' _ | exact trivial | exact Or.inl rfl | exact Or.inr rfl | (exfalso; omega)))
        have em : min (min (x.2.2.2.2.2.2 i) (P.2.2.1 i + W1)) (VV V (dN V - (i + 1)).toNat (dB V i) 1 (e + P.2.2.2.2.2.2.2.2.2.2.1 + dW V i) + dM V i 1 (e + P.2.2.2.2.2.2.2.2.2.2.1) + P.2.2.2.2.2.2.2.2.2.2.2.1) = W0 := by
          rw [hdec, hbh, hpi.2, p8.2]
        rw [em]
        exact goal2
      · rw [cif_f hfit] at hdec
        have goal2 := goal (iv 1) (iv (e + P.2.2.2.2.2.2.2.2.2.2.1))
        refine aw_tree (I1_ok X _) [(true, 49), (false, 24), (true, 8)] [26] rfl ?_
        dsimp only
        repeat' (first | refine And.intro ?_ ?_ | (refine aImp_e0 ?_; intro _) | (refine aImp_n0 ?_; intro _) | (refine aImp_i ?_; intro _))
        all_goals (try (first | omega | exact bI_01 _ | exact bI_lo _ | exact bI_hi _ | exact bI_hi' _ | exact trivial | exact Or.inl rfl | exact Or.inr rfl | (exfalso; omega)))
        have em : min (x.2.2.2.2.2.2 i) (P.2.2.1 i + W1) = W0 := by
          rw [hbh, hpi.2]
          omega
        rw [em]
        exact goal2
    · rw [bI_f hb]
      rw [cif_f hb, cif_f hb, Int.add_zero, Int.add_zero] at hdec
      rw [cif_f hb, Int.add_zero] at hm2 v3
      by_cases hfit : e + dW V i ≤ dX V 1
      · rw [cif_t hfit] at hdec
        have hAi := hA i e (by omega) hi (by omega) (by omega)
        have goal2 := goal (iv 0) (iv e)
        refine aw_tree (I1_ok X _) [(true, 49), (false, 24), (true, 8)] [26] rfl ?_
        dsimp only
        repeat' (first | refine And.intro ?_ ?_ | (refine aImp_e0 ?_; intro _) | (refine aImp_n0 ?_; intro _) | (refine aImp_i ?_; intro _))
        all_goals (try (first | omega | exact bI_01 _ | exact bI_lo _ | exact bI_hi _ | exact bI_hi' _ | exact trivial | exact Or.inl rfl | exact Or.inr rfl | (exfalso; omega)))
        refine aw_cf0 (c_sitPrice1 _ sb ss T G L O R P C B D S N bm b0 bt x V i e hV hP ⟨hx.1, hx.2.1⟩ (by omega) (by omega) hAi) rfl ?_
        refine aw_tree (I1_ok X _) [(true, 49), (false, 24), (true, 8)] [26] rfl ?_
        dsimp only
        repeat' (first | refine And.intro ?_ ?_ | (refine aImp_e0 ?_; intro _) | (refine aImp_n0 ?_; intro _) | (refine aImp_i ?_; intro _))
        all_goals (try (first | omega | exact bI_01 _ | exact bI_lo _ | exact bI_hi _ | exact bI_hi' _ | exact trivial | exact Or.inl rfl | exact Or.inr rfl | (exfalso; omega)))
        have em : min (min (x.2.2.2.2.2.2 i) (P.2.2.1 i + W1)) (VV V (dN V - (i + 1)).toNat (dB V i) 1 (e + dW V i) + dM V i 1 e + 0) = W0 := by
          rw [hdec, hbh, hpi.2, Int.add_zero]
        rw [em]
        exact goal2
      · rw [cif_f hfit] at hdec
        have goal2 := goal (iv 0) (iv e)
        refine aw_tree (I1_ok X _) [(true, 49), (false, 24), (true, 8)] [26] rfl ?_
        dsimp only
        repeat' (first | refine And.intro ?_ ?_ | (refine aImp_e0 ?_; intro _) | (refine aImp_n0 ?_; intro _) | (refine aImp_i ?_; intro _))
        all_goals (try (first | omega | exact bI_01 _ | exact bI_lo _ | exact bI_hi _ | exact bI_hi' _ | exact trivial | exact Or.inl rfl | exact Or.inr rfl | (exfalso; omega)))
        have em : min (x.2.2.2.2.2.2 i) (P.2.2.1 i + W1) = W0 := by
          rw [hbh, hpi.2]
          omega
        rw [em]
        exact goal2
theorem c_priceBeside1 {X : AX} (d : Nat) (sb ss : Nat) (T : TyT) (G : TyG) (L : TyL) (O : TyO) (R : TyR) (P : TyP) (C : TyC) (B D : TyB) (S N : TyS) (bm : AC24) (b0 : TyBn) (bt : List TyBn) (x : TyBn) (V : DP) (fr l e : Int) (hV : kD V) (hP : rP P V) (hx : x.1 = 1 ∧ (0 ≤ x.2.1 ∧ x.2.1 ≤ 40) ∧ x.2.1 = dX V 1 ∧ 1 < dR V) (hf : 0 ≤ fr ∧ fr ≤ dN V) (hl : -1 ≤ l ∧ l < fr) (he : 0 ≤ e ∧ e ≤ x.2.1) (hR : tR V 1 x fr) (hA : tA V 1 x fr) (hH : tH V 1 x fr) :
    AF X (d + 5) 0 0 30 [rf 17, rf 77, iv fr, iv l, iv e] (CH sb ss T G L O R P C B D S N (MV bm (BH 73 (b0 :: x :: bt)))) (some (iv (VV V (dN V - fr).toNat (dB V l) 1 e))) (CH sb ss T G L O R P C B D S N (MV bm (BH 73 (b0 :: x :: bt)))) := by
  have hP' := hP
  obtain ⟨p1, p2, p3, p4, p5, p6, p7, p8, p9, p10⟩ := hP'
  have hn := hV.1
  have go : ∀ ub : Int, fr ≤ ub → ub ≤ dN V → (∀ j, ub ≤ j → j < dN V → ¬ dB V l j) → AW X (d + 5) 0 0 30 13 [rf 17, rf 77, iv fr, iv l, iv e, jk, jk, jk, jk, jk] [iv ub] (CH sb ss T G L O R P C B D S N (MV bm (BH 73 (b0 :: x :: bt)))) (fun r' h'' => r' = some (iv (VV V (dN V - fr).toNat (dB V l) 1 e)) ∧ h'' = (CH sb ss T G L O R P C B D S N (MV bm (BH 73 (b0 :: x :: bt))))) := by
    intro ub hub hub2 hno
    have hs := slot_b (n := 33) (w := x.2.1) (i := ub) (u := e) (by omega) (by omega) he
    have hr := hR ub e hub hub2 he.1 he.2
    have hcg := VV_congr (D := V) (dN V - ub).toNat (fun _ => False) (dB V l) 1 e (fun j j0 j1 => ⟨fun k => k.elim, fun k => hno j (by omega) j1 k⟩)
    refine aw_tree (I1_ok X _) [(true, 49), (false, 24), (true, 8)] [26] rfl ?_
    dsimp only
    repeat' (first | refine And.intro ?_ ?_ | (refine aImp_e0 ?_; intro _) | (refine aImp_n0 ?_; intro _) | (refine aImp_i ?_; intro _))
    all_goals (try (first | omega | exact bI_01 _ | exact bI_lo _ | exact bI_hi _ | exact bI_hi' _ | exact trivial | exact Or.inl rfl | exact Or.inr rfl | (exfalso; omega)))
    rw [hr, hcg]
    have goal := c_pb_loop1 (X := X) d sb ss T G L O R P C B D S N bm b0 bt x V fr l e ub (Q := fun r' h'' => r' = some (iv (VV V (dN V - fr).toNat (dB V l) 1 e)) ∧ h'' = (CH sb ss T G L O R P C B D S N (MV bm (BH 73 (b0 :: x :: bt))))) hV hP hx hf hl he hA hH ⟨rfl, rfl⟩ (ub - fr).toNat (ub - 1) jk jk (by omega) (by omega)
    rw [show ub - 1 + 1 = ub from by omega] at goal
    exact goal
  by_cases h0 : l = -1
  · subst h0
    refine aw_tree (I1_ok X _) [(true, 49), (false, 24), (true, 8)] [13] rfl ?_
    dsimp only
    repeat' (first | refine And.intro ?_ ?_ | (refine aImp_e0 ?_; intro _) | (refine aImp_n0 ?_; intro _) | (refine aImp_i ?_; intro _))
    all_goals (try (first | omega | exact bI_01 _ | exact bI_lo _ | exact bI_hi _ | exact bI_hi' _ | exact trivial | exact Or.inl rfl | exact Or.inr rfl | (exfalso; omega)))
    exact go fr (by omega) (by omega) (fun j _ _ => p10 j)
  · have hlb := p3 l (by omega) (by omega)
    refine aw_tree (I1_ok X _) [(true, 49), (false, 24), (true, 8)] [13] rfl ?_
    dsimp only
    repeat' (first | refine And.intro ?_ ?_ | (refine aImp_e0 ?_; intro _) | (refine aImp_n0 ?_; intro _) | (refine aImp_i ?_; intro _))
    all_goals (try (first | omega | exact bI_01 _ | exact bI_lo _ | exact bI_hi _ | exact bI_hi' _ | exact trivial | exact Or.inl rfl | exact Or.inr rfl | (exfalso; omega)))
    refine go (max fr (P.2.2.2.2.1 l + 1)) (by omega) (by omega) (fun j j0 j1 => hlb.2 j (by omega) j1 (by omega))
theorem c_pb_loop2 {X : AX} (d : Nat) (sb ss : Nat) (T : TyT) (G : TyG) (L : TyL) (O : TyO) (R : TyR) (P : TyP) (C : TyC) (B D : TyB) (S N : TyS) (bm : AC24) (b0 b1 : TyBn) (bt : List TyBn) (x : TyBn) (V : DP) (fr l e ub : Int) {Q : AQ} (hV : kD V) (hP : rP P V) (hx : x.1 = 2 ∧ (0 ≤ x.2.1 ∧ x.2.1 ≤ 40) ∧ x.2.1 = dX V 2 ∧ 2 < dR V) (hf : 0 ≤ fr ∧ fr ≤ dN V) (hl : -1 ≤ l ∧ l < fr) (he : 0 ≤ e ∧ e ≤ x.2.1) (hA : tA V 2 x fr) (hH : tH V 2 x fr)
    (hQ : Q (some (iv (VV V (dN V - fr).toNat (dB V l) 2 e))) (CH sb ss T G L O R P C B D S N (MV bm (BH 73 (b0 :: b1 :: x :: bt))))) :
    ∀ (m : Nat) (i : Int) (v8 v9 : AV), i + 1 = fr + m → i < dN V → AW X (d + 5) 0 0 30 26 [rf 17, rf 81, iv fr, iv l, iv e, iv ub, iv (VV V (dN V - (i + 1)).toNat (dB V l) 2 e), iv i, v8, v9] [] (CH sb ss T G L O R P C B D S N (MV bm (BH 73 (b0 :: b1 :: x :: bt)))) Q := by
  have hP' := hP
  obtain ⟨p1, p2, p3, p4, p5, p6, p7, p8, p9, p10⟩ := hP'
  have hn := hV.1
  have hF := hV.2.2.2.2.2.2.1
  have hE := hV.2.2.2.2.2.2.2
  intro m
  induction m with
  | zero =>
    intro i v8 v9 hm hi
    have ei : i + 1 = fr := by omega
    rw [ei]
    refine aw_tree (I1_ok X _) [(true, 49), (false, 24), (true, 12)] [26] rfl ?_
    dsimp only
    repeat' (first | refine And.intro ?_ ?_ | (refine aImp_e0 ?_; intro _) | (refine aImp_n0 ?_; intro _) | (refine aImp_i ?_; intro _))
    all_goals (try (first | omega | exact bI_01 _ | exact bI_lo _ | exact bI_hi _ | exact bI_hi' _ | exact trivial | exact Or.inl rfl | exact Or.inr rfl | (exfalso; omega)))
    exact hQ
  | succ m ih =>
    intro i v8 v9 hm hi
    have hw := hV.2.2.1 i (by omega) hi
    have ho := hV.2.1 i (by omega) hi
    have hpi := p2 i (by omega) hi
    have hbh := hH i (by omega) hi
    have hdec := VV_decI hV (i := i) (by omega) (dB V l) 2 e (by omega)
    have v1 := VV_r hV (dN V - (i + 1)).toNat (dB V l) 2 e (by omega)
    have v2 := VV_r hV (dN V - i).toNat (fun _ => False) (2 + 1) 0 (by omega)
    have hm2 := hV.2.2.2.1 i 2 (e + cif (dB V l i) (dF V) 0)
    have v3 := VV_r hV (dN V - (i + 1)).toNat (dB V i) 2 (e + cif (dB V l i) (dF V) 0 + dW V i) (by omega)
    have v4 := VV_r hV (dN V - i).toNat (dB V l) 2 e (by omega)
    have goal := fun v8 v9 => ih (i - 1) v8 v9 (by omega) (by omega)
    rw [show i - 1 + 1 = i from by omega] at goal
    rw [← hpi.1] at hw
    rw [← hpi.2] at ho
    generalize hg1 : VV V (dN V - (i + 1)).toNat (dB V l) 2 e = W1 at *
    generalize hg2 : VV V (dN V - i).toNat (dB V l) 2 e = W0 at *
    refine aw_tree (I1_ok X _) [(true, 49), (false, 24), (true, 12)] [26] rfl ?_
    dsimp only
    repeat' (first | refine And.intro ?_ ?_ | (refine aImp_e0 ?_; intro _) | (refine aImp_n0 ?_; intro _) | (refine aImp_i ?_; intro _))
    all_goals (try (first | omega | exact bI_01 _ | exact bI_lo _ | exact bI_hi _ | exact bI_hi' _ | exact trivial | exact Or.inl rfl | exact Or.inr rfl | (exfalso; omega)))
    refine aw_cf0 (c_pBarred _ sb ss T G L O R P C B D S N (MV bm (BH 73 (b0 :: b1 :: x :: bt))) l i V hP (by omega) hi (by omega)) rfl ?_
    by_cases hb : dB V l i
    · rw [bI_t hb]
      rw [cif_t hb, cif_t hb] at hdec
      rw [cif_t hb] at hm2 v3
      have hF' := hF
      rw [← p8.1] at hdec hm2 v3 hF'
      by_cases hfit : e + P.2.2.2.2.2.2.2.2.2.2.1 + dW V i ≤ dX V 2
      · rw [cif_t hfit] at hdec
        have hAi := hA i (e + P.2.2.2.2.2.2.2.2.2.2.1) (by omega) hi (by omega) (by omega)
        have goal2 := goal (iv 1) (iv (e + P.2.2.2.2.2.2.2.2.2.2.1))
        refine aw_tree (I1_ok X _) [(true, 49), (false, 24), (true, 12)] [26] rfl ?_
        dsimp only
        repeat' (first | refine And.intro ?_ ?_ | (refine aImp_e0 ?_; intro _) | (refine aImp_n0 ?_; intro _) | (refine aImp_i ?_; intro _))
        all_goals (try (first | omega | exact bI_01 _ | exact bI_lo _ | exact bI_hi _ | exact bI_hi' _ | exact trivial | exact Or.inl rfl | exact Or.inr rfl | (exfalso; omega)))
        refine aw_cf0 (c_sitPrice2 _ sb ss T G L O R P C B D S N bm b0 b1 bt x V i (e + P.2.2.2.2.2.2.2.2.2.2.1) hV hP ⟨hx.1, hx.2.1⟩ (by omega) (by omega) hAi) rfl ?_
        refine aw_tree (I1_ok X _) [(true, 49), (false, 24), (true, 12)] [26] rfl ?_
        dsimp only
        repeat' (first | refine And.intro ?_ ?_ | (refine aImp_e0 ?_; intro _) | (refine aImp_n0 ?_; intro _) | (refine aImp_i ?_; intro _))
        all_goals (try (first | omega | exact bI_01 _ | exact bI_lo _ | exact bI_hi _ | exact bI_hi' _ | exact trivial | exact Or.inl rfl | exact Or.inr rfl | (exfalso; omega)))
        have em : min (min (x.2.2.2.2.2.2 i) (P.2.2.1 i + W1)) (VV V (dN V - (i + 1)).toNat (dB V i) 2 (e + P.2.2.2.2.2.2.2.2.2.2.1 + dW V i) + dM V i 2 (e + P.2.2.2.2.2.2.2.2.2.2.1) + P.2.2.2.2.2.2.2.2.2.2.2.1) = W0 := by
          rw [hdec, hbh, hpi.2, p8.2]
        rw [em]
        exact goal2
      · rw [cif_f hfit] at hdec
        have goal2 := goal (iv 1) (iv (e + P.2.2.2.2.2.2.2.2.2.2.1))
        refine aw_tree (I1_ok X _) [(true, 49), (false, 24), (true, 12)] [26] rfl ?_
        dsimp only
        repeat' (first | refine And.intro ?_ ?_ | (refine aImp_e0 ?_; intro _) | (refine aImp_n0 ?_; intro _) | (refine aImp_i ?_; intro _))
        all_goals (try (first | omega | exact bI_01 _ | exact bI_lo _ | exact bI_hi _ | exact bI_hi' _ | exact trivial | exact Or.inl rfl | exact Or.inr rfl | (exfalso; omega)))
        have em : min (x.2.2.2.2.2.2 i) (P.2.2.1 i + W1) = W0 := by
          rw [hbh, hpi.2]
          omega
        rw [em]
        exact goal2
    · rw [bI_f hb]
      rw [cif_f hb, cif_f hb, Int.add_zero, Int.add_zero] at hdec
      rw [cif_f hb, Int.add_zero] at hm2 v3
      by_cases hfit : e + dW V i ≤ dX V 2
      · rw [cif_t hfit] at hdec
        have hAi := hA i e (by omega) hi (by omega) (by omega)
        have goal2 := goal (iv 0) (iv e)
        refine aw_tree (I1_ok X _) [(true, 49), (false, 24), (true, 12)] [26] rfl ?_
        dsimp only
        repeat' (first | refine And.intro ?_ ?_ | (refine aImp_e0 ?_; intro _) | (refine aImp_n0 ?_; intro _) | (refine aImp_i ?_; intro _))
        all_goals (try (first | omega | exact bI_01 _ | exact bI_lo _ | exact bI_hi _ | exact bI_hi' _ | exact trivial | exact Or.inl rfl | exact Or.inr rfl | (exfalso; omega)))
        refine aw_cf0 (c_sitPrice2 _ sb ss T G L O R P C B D S N bm b0 b1 bt x V i e hV hP ⟨hx.1, hx.2.1⟩ (by omega) (by omega) hAi) rfl ?_
        refine aw_tree (I1_ok X _) [(true, 49), (false, 24), (true, 12)] [26] rfl ?_
        dsimp only
        repeat' (first | refine And.intro ?_ ?_ | (refine aImp_e0 ?_; intro _) | (refine aImp_n0 ?_; intro _) | (refine aImp_i ?_; intro _))
        all_goals (try (first | omega | exact bI_01 _ | exact bI_lo _ | exact bI_hi _ | exact bI_hi' _ | exact trivial | exact Or.inl rfl | exact Or.inr rfl | (exfalso; omega)))
        have em : min (min (x.2.2.2.2.2.2 i) (P.2.2.1 i + W1)) (VV V (dN V - (i + 1)).toNat (dB V i) 2 (e + dW V i) + dM V i 2 e + 0) = W0 := by
          rw [hdec, hbh, hpi.2, Int.add_zero]
        rw [em]
        exact goal2
      · rw [cif_f hfit] at hdec
        have goal2 := goal (iv 0) (iv e)
        refine aw_tree (I1_ok X _) [(true, 49), (false, 24), (true, 12)] [26] rfl ?_
        dsimp only
        repeat' (first | refine And.intro ?_ ?_ | (refine aImp_e0 ?_; intro _) | (refine aImp_n0 ?_; intro _) | (refine aImp_i ?_; intro _))
        all_goals (try (first | omega | exact bI_01 _ | exact bI_lo _ | exact bI_hi _ | exact bI_hi' _ | exact trivial | exact Or.inl rfl | exact Or.inr rfl | (exfalso; omega)))
        have em : min (x.2.2.2.2.2.2 i) (P.2.2.1 i + W1) = W0 := by
          rw [hbh, hpi.2]
          omega
        rw [em]
        exact goal2
theorem c_priceBeside2 {X : AX} (d : Nat) (sb ss : Nat) (T : TyT) (G : TyG) (L : TyL) (O : TyO) (R : TyR) (P : TyP) (C : TyC) (B D : TyB) (S N : TyS) (bm : AC24) (b0 b1 : TyBn) (bt : List TyBn) (x : TyBn) (V : DP) (fr l e : Int) (hV : kD V) (hP : rP P V) (hx : x.1 = 2 ∧ (0 ≤ x.2.1 ∧ x.2.1 ≤ 40) ∧ x.2.1 = dX V 2 ∧ 2 < dR V) (hf : 0 ≤ fr ∧ fr ≤ dN V) (hl : -1 ≤ l ∧ l < fr) (he : 0 ≤ e ∧ e ≤ x.2.1) (hR : tR V 2 x fr) (hA : tA V 2 x fr) (hH : tH V 2 x fr) :
    AF X (d + 5) 0 0 30 [rf 17, rf 81, iv fr, iv l, iv e] (CH sb ss T G L O R P C B D S N (MV bm (BH 73 (b0 :: b1 :: x :: bt)))) (some (iv (VV V (dN V - fr).toNat (dB V l) 2 e))) (CH sb ss T G L O R P C B D S N (MV bm (BH 73 (b0 :: b1 :: x :: bt)))) := by
  have hP' := hP
  obtain ⟨p1, p2, p3, p4, p5, p6, p7, p8, p9, p10⟩ := hP'
  have hn := hV.1
  have go : ∀ ub : Int, fr ≤ ub → ub ≤ dN V → (∀ j, ub ≤ j → j < dN V → ¬ dB V l j) → AW X (d + 5) 0 0 30 13 [rf 17, rf 81, iv fr, iv l, iv e, jk, jk, jk, jk, jk] [iv ub] (CH sb ss T G L O R P C B D S N (MV bm (BH 73 (b0 :: b1 :: x :: bt)))) (fun r' h'' => r' = some (iv (VV V (dN V - fr).toNat (dB V l) 2 e)) ∧ h'' = (CH sb ss T G L O R P C B D S N (MV bm (BH 73 (b0 :: b1 :: x :: bt))))) := by
    intro ub hub hub2 hno
    have hs := slot_b (n := 33) (w := x.2.1) (i := ub) (u := e) (by omega) (by omega) he
    have hr := hR ub e hub hub2 he.1 he.2
    have hcg := VV_congr (D := V) (dN V - ub).toNat (fun _ => False) (dB V l) 2 e (fun j j0 j1 => ⟨fun k => k.elim, fun k => hno j (by omega) j1 k⟩)
    refine aw_tree (I1_ok X _) [(true, 49), (false, 24), (true, 12)] [26] rfl ?_
    dsimp only
    repeat' (first | refine And.intro ?_ ?_ | (refine aImp_e0 ?_; intro _) | (refine aImp_n0 ?_; intro _) | (refine aImp_i ?_; intro _))
    all_goals (try (first | omega | exact bI_01 _ | exact bI_lo _ | exact bI_hi _ | exact bI_hi' _ | exact trivial | exact Or.inl rfl | exact Or.inr rfl | (exfalso; omega)))
    rw [hr, hcg]
    have goal := c_pb_loop2 (X := X) d sb ss T G L O R P C B D S N bm b0 b1 bt x V fr l e ub (Q := fun r' h'' => r' = some (iv (VV V (dN V - fr).toNat (dB V l) 2 e)) ∧ h'' = (CH sb ss T G L O R P C B D S N (MV bm (BH 73 (b0 :: b1 :: x :: bt))))) hV hP hx hf hl he hA hH ⟨rfl, rfl⟩ (ub - fr).toNat (ub - 1) jk jk (by omega) (by omega)
    rw [show ub - 1 + 1 = ub from by omega] at goal
    exact goal
  by_cases h0 : l = -1
  · subst h0
    refine aw_tree (I1_ok X _) [(true, 49), (false, 24), (true, 12)] [13] rfl ?_
    dsimp only
    repeat' (first | refine And.intro ?_ ?_ | (refine aImp_e0 ?_; intro _) | (refine aImp_n0 ?_; intro _) | (refine aImp_i ?_; intro _))
    all_goals (try (first | omega | exact bI_01 _ | exact bI_lo _ | exact bI_hi _ | exact bI_hi' _ | exact trivial | exact Or.inl rfl | exact Or.inr rfl | (exfalso; omega)))
    exact go fr (by omega) (by omega) (fun j _ _ => p10 j)
  · have hlb := p3 l (by omega) (by omega)
    refine aw_tree (I1_ok X _) [(true, 49), (false, 24), (true, 12)] [13] rfl ?_
    dsimp only
    repeat' (first | refine And.intro ?_ ?_ | (refine aImp_e0 ?_; intro _) | (refine aImp_n0 ?_; intro _) | (refine aImp_i ?_; intro _))
    all_goals (try (first | omega | exact bI_01 _ | exact bI_lo _ | exact bI_hi _ | exact bI_hi' _ | exact trivial | exact Or.inl rfl | exact Or.inr rfl | (exfalso; omega)))
    refine go (max fr (P.2.2.2.2.1 l + 1)) (by omega) (by omega) (fun j j0 j1 => hlb.2 j (by omega) j1 (by omega))
theorem c_pb_loop3 {X : AX} (d : Nat) (sb ss : Nat) (T : TyT) (G : TyG) (L : TyL) (O : TyO) (R : TyR) (P : TyP) (C : TyC) (B D : TyB) (S N : TyS) (bm : AC24) (b0 b1 b2 : TyBn) (bt : List TyBn) (x : TyBn) (V : DP) (fr l e ub : Int) {Q : AQ} (hV : kD V) (hP : rP P V) (hx : x.1 = 3 ∧ (0 ≤ x.2.1 ∧ x.2.1 ≤ 40) ∧ x.2.1 = dX V 3 ∧ 3 < dR V) (hf : 0 ≤ fr ∧ fr ≤ dN V) (hl : -1 ≤ l ∧ l < fr) (he : 0 ≤ e ∧ e ≤ x.2.1) (hA : tA V 3 x fr) (hH : tH V 3 x fr)
    (hQ : Q (some (iv (VV V (dN V - fr).toNat (dB V l) 3 e))) (CH sb ss T G L O R P C B D S N (MV bm (BH 73 (b0 :: b1 :: b2 :: x :: bt))))) :
    ∀ (m : Nat) (i : Int) (v8 v9 : AV), i + 1 = fr + m → i < dN V → AW X (d + 5) 0 0 30 26 [rf 17, rf 85, iv fr, iv l, iv e, iv ub, iv (VV V (dN V - (i + 1)).toNat (dB V l) 3 e), iv i, v8, v9] [] (CH sb ss T G L O R P C B D S N (MV bm (BH 73 (b0 :: b1 :: b2 :: x :: bt)))) Q := by
  have hP' := hP
  obtain ⟨p1, p2, p3, p4, p5, p6, p7, p8, p9, p10⟩ := hP'
  have hn := hV.1
  have hF := hV.2.2.2.2.2.2.1
  have hE := hV.2.2.2.2.2.2.2
  intro m
  induction m with
  | zero =>
    intro i v8 v9 hm hi
    have ei : i + 1 = fr := by omega
    rw [ei]
    refine aw_tree (I1_ok X _) [(true, 49), (false, 24), (true, 16)] [26] rfl ?_
    dsimp only
    repeat' (first | refine And.intro ?_ ?_ | (refine aImp_e0 ?_; intro _) | (refine aImp_n0 ?_; intro _) | (refine aImp_i ?_; intro _))
    all_goals (try (first | omega | exact bI_01 _ | exact bI_lo _ | exact bI_hi _ | exact bI_hi' _ | exact trivial | exact Or.inl rfl | exact Or.inr rfl | (exfalso; omega)))
    exact hQ
  | succ m ih =>
    intro i v8 v9 hm hi
    have hw := hV.2.2.1 i (by omega) hi
    have ho := hV.2.1 i (by omega) hi
    have hpi := p2 i (by omega) hi
    have hbh := hH i (by omega) hi
    have hdec := VV_decI hV (i := i) (by omega) (dB V l) 3 e (by omega)
    have v1 := VV_r hV (dN V - (i + 1)).toNat (dB V l) 3 e (by omega)
    have v2 := VV_r hV (dN V - i).toNat (fun _ => False) (3 + 1) 0 (by omega)
    have hm2 := hV.2.2.2.1 i 3 (e + cif (dB V l i) (dF V) 0)
    have v3 := VV_r hV (dN V - (i + 1)).toNat (dB V i) 3 (e + cif (dB V l i) (dF V) 0 + dW V i) (by omega)
    have v4 := VV_r hV (dN V - i).toNat (dB V l) 3 e (by omega)
    have goal := fun v8 v9 => ih (i - 1) v8 v9 (by omega) (by omega)
    rw [show i - 1 + 1 = i from by omega] at goal
    rw [← hpi.1] at hw
    rw [← hpi.2] at ho
    generalize hg1 : VV V (dN V - (i + 1)).toNat (dB V l) 3 e = W1 at *
    generalize hg2 : VV V (dN V - i).toNat (dB V l) 3 e = W0 at *
    refine aw_tree (I1_ok X _) [(true, 49), (false, 24), (true, 16)] [26] rfl ?_
    dsimp only
    repeat' (first | refine And.intro ?_ ?_ | (refine aImp_e0 ?_; intro _) | (refine aImp_n0 ?_; intro _) | (refine aImp_i ?_; intro _))
    all_goals (try (first | omega | exact bI_01 _ | exact bI_lo _ | exact bI_hi _ | exact bI_hi' _ | exact trivial | exact Or.inl rfl | exact Or.inr rfl | (exfalso; omega)))
    refine aw_cf0 (c_pBarred _ sb ss T G L O R P C B D S N (MV bm (BH 73 (b0 :: b1 :: b2 :: x :: bt))) l i V hP (by omega) hi (by omega)) rfl ?_
    by_cases hb : dB V l i
    · rw [bI_t hb]
      rw [cif_t hb, cif_t hb] at hdec
      rw [cif_t hb] at hm2 v3
      have hF' := hF
      rw [← p8.1] at hdec hm2 v3 hF'
      by_cases hfit : e + P.2.2.2.2.2.2.2.2.2.2.1 + dW V i ≤ dX V 3
      · rw [cif_t hfit] at hdec
        have hAi := hA i (e + P.2.2.2.2.2.2.2.2.2.2.1) (by omega) hi (by omega) (by omega)
        have goal2 := goal (iv 1) (iv (e + P.2.2.2.2.2.2.2.2.2.2.1))
        refine aw_tree (I1_ok X _) [(true, 49), (false, 24), (true, 16)] [26] rfl ?_
        dsimp only
        repeat' (first | refine And.intro ?_ ?_ | (refine aImp_e0 ?_; intro _) | (refine aImp_n0 ?_; intro _) | (refine aImp_i ?_; intro _))
        all_goals (try (first | omega | exact bI_01 _ | exact bI_lo _ | exact bI_hi _ | exact bI_hi' _ | exact trivial | exact Or.inl rfl | exact Or.inr rfl | (exfalso; omega)))
        refine aw_cf0 (c_sitPrice3 _ sb ss T G L O R P C B D S N bm b0 b1 b2 bt x V i (e + P.2.2.2.2.2.2.2.2.2.2.1) hV hP ⟨hx.1, hx.2.1⟩ (by omega) (by omega) hAi) rfl ?_
        refine aw_tree (I1_ok X _) [(true, 49), (false, 24), (true, 16)] [26] rfl ?_
        dsimp only
        repeat' (first | refine And.intro ?_ ?_ | (refine aImp_e0 ?_; intro _) | (refine aImp_n0 ?_; intro _) | (refine aImp_i ?_; intro _))
        all_goals (try (first | omega | exact bI_01 _ | exact bI_lo _ | exact bI_hi _ | exact bI_hi' _ | exact trivial | exact Or.inl rfl | exact Or.inr rfl | (exfalso; omega)))
        have em : min (min (x.2.2.2.2.2.2 i) (P.2.2.1 i + W1)) (VV V (dN V - (i + 1)).toNat (dB V i) 3 (e + P.2.2.2.2.2.2.2.2.2.2.1 + dW V i) + dM V i 3 (e + P.2.2.2.2.2.2.2.2.2.2.1) + P.2.2.2.2.2.2.2.2.2.2.2.1) = W0 := by
          rw [hdec, hbh, hpi.2, p8.2]
        rw [em]
        exact goal2
      · rw [cif_f hfit] at hdec
        have goal2 := goal (iv 1) (iv (e + P.2.2.2.2.2.2.2.2.2.2.1))
        refine aw_tree (I1_ok X _) [(true, 49), (false, 24), (true, 16)] [26] rfl ?_
        dsimp only
        repeat' (first | refine And.intro ?_ ?_ | (refine aImp_e0 ?_; intro _) | (refine aImp_n0 ?_; intro _) | (refine aImp_i ?_; intro _))
        all_goals (try (first | omega | exact bI_01 _ | exact bI_lo _ | exact bI_hi _ | exact bI_hi' _ | exact trivial | exact Or.inl rfl | exact Or.inr rfl | (exfalso; omega)))
        have em : min (x.2.2.2.2.2.2 i) (P.2.2.1 i + W1) = W0 := by
          rw [hbh, hpi.2]
          omega
        rw [em]
        exact goal2
    · rw [bI_f hb]
      rw [cif_f hb, cif_f hb, Int.add_zero, Int.add_zero] at hdec
      rw [cif_f hb, Int.add_zero] at hm2 v3
      by_cases hfit : e + dW V i ≤ dX V 3
      · rw [cif_t hfit] at hdec
        have hAi := hA i e (by omega) hi (by omega) (by omega)
        have goal2 := goal (iv 0) (iv e)
        refine aw_tree (I1_ok X _) [(true, 49), (false, 24), (true, 16)] [26] rfl ?_
        dsimp only
        repeat' (first | refine And.intro ?_ ?_ | (refine aImp_e0 ?_; intro _) | (refine aImp_n0 ?_; intro _) | (refine aImp_i ?_; intro _))
        all_goals (try (first | omega | exact bI_01 _ | exact bI_lo _ | exact bI_hi _ | exact bI_hi' _ | exact trivial | exact Or.inl rfl | exact Or.inr rfl | (exfalso; omega)))
        refine aw_cf0 (c_sitPrice3 _ sb ss T G L O R P C B D S N bm b0 b1 b2 bt x V i e hV hP ⟨hx.1, hx.2.1⟩ (by omega) (by omega) hAi) rfl ?_
        refine aw_tree (I1_ok X _) [(true, 49), (false, 24), (true, 16)] [26] rfl ?_
        dsimp only
        repeat' (first | refine And.intro ?_ ?_ | (refine aImp_e0 ?_; intro _) | (refine aImp_n0 ?_; intro _) | (refine aImp_i ?_; intro _))
        all_goals (try (first | omega | exact bI_01 _ | exact bI_lo _ | exact bI_hi _ | exact bI_hi' _ | exact trivial | exact Or.inl rfl | exact Or.inr rfl | (exfalso; omega)))
        have em : min (min (x.2.2.2.2.2.2 i) (P.2.2.1 i + W1)) (VV V (dN V - (i + 1)).toNat (dB V i) 3 (e + dW V i) + dM V i 3 e + 0) = W0 := by
          rw [hdec, hbh, hpi.2, Int.add_zero]
        rw [em]
        exact goal2
      · rw [cif_f hfit] at hdec
        have goal2 := goal (iv 0) (iv e)
        refine aw_tree (I1_ok X _) [(true, 49), (false, 24), (true, 16)] [26] rfl ?_
        dsimp only
        repeat' (first | refine And.intro ?_ ?_ | (refine aImp_e0 ?_; intro _) | (refine aImp_n0 ?_; intro _) | (refine aImp_i ?_; intro _))
        all_goals (try (first | omega | exact bI_01 _ | exact bI_lo _ | exact bI_hi _ | exact bI_hi' _ | exact trivial | exact Or.inl rfl | exact Or.inr rfl | (exfalso; omega)))
        have em : min (x.2.2.2.2.2.2 i) (P.2.2.1 i + W1) = W0 := by
          rw [hbh, hpi.2]
          omega
        rw [em]
        exact goal2
theorem c_priceBeside3 {X : AX} (d : Nat) (sb ss : Nat) (T : TyT) (G : TyG) (L : TyL) (O : TyO) (R : TyR) (P : TyP) (C : TyC) (B D : TyB) (S N : TyS) (bm : AC24) (b0 b1 b2 : TyBn) (bt : List TyBn) (x : TyBn) (V : DP) (fr l e : Int) (hV : kD V) (hP : rP P V) (hx : x.1 = 3 ∧ (0 ≤ x.2.1 ∧ x.2.1 ≤ 40) ∧ x.2.1 = dX V 3 ∧ 3 < dR V) (hf : 0 ≤ fr ∧ fr ≤ dN V) (hl : -1 ≤ l ∧ l < fr) (he : 0 ≤ e ∧ e ≤ x.2.1) (hR : tR V 3 x fr) (hA : tA V 3 x fr) (hH : tH V 3 x fr) :
    AF X (d + 5) 0 0 30 [rf 17, rf 85, iv fr, iv l, iv e] (CH sb ss T G L O R P C B D S N (MV bm (BH 73 (b0 :: b1 :: b2 :: x :: bt)))) (some (iv (VV V (dN V - fr).toNat (dB V l) 3 e))) (CH sb ss T G L O R P C B D S N (MV bm (BH 73 (b0 :: b1 :: b2 :: x :: bt)))) := by
  have hP' := hP
  obtain ⟨p1, p2, p3, p4, p5, p6, p7, p8, p9, p10⟩ := hP'
  have hn := hV.1
  have go : ∀ ub : Int, fr ≤ ub → ub ≤ dN V → (∀ j, ub ≤ j → j < dN V → ¬ dB V l j) → AW X (d + 5) 0 0 30 13 [rf 17, rf 85, iv fr, iv l, iv e, jk, jk, jk, jk, jk] [iv ub] (CH sb ss T G L O R P C B D S N (MV bm (BH 73 (b0 :: b1 :: b2 :: x :: bt)))) (fun r' h'' => r' = some (iv (VV V (dN V - fr).toNat (dB V l) 3 e)) ∧ h'' = (CH sb ss T G L O R P C B D S N (MV bm (BH 73 (b0 :: b1 :: b2 :: x :: bt))))) := by
    intro ub hub hub2 hno
    have hs := slot_b (n := 33) (w := x.2.1) (i := ub) (u := e) (by omega) (by omega) he
    have hr := hR ub e hub hub2 he.1 he.2
    have hcg := VV_congr (D := V) (dN V - ub).toNat (fun _ => False) (dB V l) 3 e (fun j j0 j1 => ⟨fun k => k.elim, fun k => hno j (by omega) j1 k⟩)
    refine aw_tree (I1_ok X _) [(true, 49), (false, 24), (true, 16)] [26] rfl ?_
    dsimp only
    repeat' (first | refine And.intro ?_ ?_ | (refine aImp_e0 ?_; intro _) | (refine aImp_n0 ?_; intro _) | (refine aImp_i ?_; intro _))
    all_goals (try (first | omega | exact bI_01 _ | exact bI_lo _ | exact bI_hi _ | exact bI_hi' _ | exact trivial | exact Or.inl rfl | exact Or.inr rfl | (exfalso; omega)))
    rw [hr, hcg]
    have goal := c_pb_loop3 (X := X) d sb ss T G L O R P C B D S N bm b0 b1 b2 bt x V fr l e ub (Q := fun r' h'' => r' = some (iv (VV V (dN V - fr).toNat (dB V l) 3 e)) ∧ h'' = (CH sb ss T G L O R P C B D S N (MV bm (BH 73 (b0 :: b1 :: b2 :: x :: bt))))) hV hP hx hf hl he hA hH ⟨rfl, rfl⟩ (ub - fr).toNat (ub - 1) jk jk (by omega) (by omega)
    rw [show ub - 1 + 1 = ub from by omega] at goal
    exact goal
  by_cases h0 : l = -1
  · subst h0
    refine aw_tree (I1_ok X _) [(true, 49), (false, 24), (true, 16)] [13] rfl ?_
    dsimp only
    repeat' (first | refine And.intro ?_ ?_ | (refine aImp_e0 ?_; intro _) | (refine aImp_n0 ?_; intro _) | (refine aImp_i ?_; intro _))
    all_goals (try (first | omega | exact bI_01 _ | exact bI_lo _ | exact bI_hi _ | exact bI_hi' _ | exact trivial | exact Or.inl rfl | exact Or.inr rfl | (exfalso; omega)))
    exact go fr (by omega) (by omega) (fun j _ _ => p10 j)
  · have hlb := p3 l (by omega) (by omega)
    refine aw_tree (I1_ok X _) [(true, 49), (false, 24), (true, 16)] [13] rfl ?_
    dsimp only
    repeat' (first | refine And.intro ?_ ?_ | (refine aImp_e0 ?_; intro _) | (refine aImp_n0 ?_; intro _) | (refine aImp_i ?_; intro _))
    all_goals (try (first | omega | exact bI_01 _ | exact bI_lo _ | exact bI_hi _ | exact bI_hi' _ | exact trivial | exact Or.inl rfl | exact Or.inr rfl | (exfalso; omega)))
    refine go (max fr (P.2.2.2.2.1 l + 1)) (by omega) (by omega) (fun j j0 j1 => hlb.2 j (by omega) j1 (by omega))
theorem c_pb_loop4 {X : AX} (d : Nat) (sb ss : Nat) (T : TyT) (G : TyG) (L : TyL) (O : TyO) (R : TyR) (P : TyP) (C : TyC) (B D : TyB) (S N : TyS) (bm : AC24) (b0 b1 b2 b3 : TyBn) (bt : List TyBn) (x : TyBn) (V : DP) (fr l e ub : Int) {Q : AQ} (hV : kD V) (hP : rP P V) (hx : x.1 = 4 ∧ (0 ≤ x.2.1 ∧ x.2.1 ≤ 40) ∧ x.2.1 = dX V 4 ∧ 4 < dR V) (hf : 0 ≤ fr ∧ fr ≤ dN V) (hl : -1 ≤ l ∧ l < fr) (he : 0 ≤ e ∧ e ≤ x.2.1) (hA : tA V 4 x fr) (hH : tH V 4 x fr)
    (hQ : Q (some (iv (VV V (dN V - fr).toNat (dB V l) 4 e))) (CH sb ss T G L O R P C B D S N (MV bm (BH 73 (b0 :: b1 :: b2 :: b3 :: x :: bt))))) :
    ∀ (m : Nat) (i : Int) (v8 v9 : AV), i + 1 = fr + m → i < dN V → AW X (d + 5) 0 0 30 26 [rf 17, rf 89, iv fr, iv l, iv e, iv ub, iv (VV V (dN V - (i + 1)).toNat (dB V l) 4 e), iv i, v8, v9] [] (CH sb ss T G L O R P C B D S N (MV bm (BH 73 (b0 :: b1 :: b2 :: b3 :: x :: bt)))) Q := by
  have hP' := hP
  obtain ⟨p1, p2, p3, p4, p5, p6, p7, p8, p9, p10⟩ := hP'
  have hn := hV.1
  have hF := hV.2.2.2.2.2.2.1
  have hE := hV.2.2.2.2.2.2.2
  intro m
  induction m with
  | zero =>
    intro i v8 v9 hm hi
    have ei : i + 1 = fr := by omega
    rw [ei]
    refine aw_tree (I1_ok X _) [(true, 49), (false, 24), (true, 20)] [26] rfl ?_
    dsimp only
    repeat' (first | refine And.intro ?_ ?_ | (refine aImp_e0 ?_; intro _) | (refine aImp_n0 ?_; intro _) | (refine aImp_i ?_; intro _))
    all_goals (try (first | omega | exact bI_01 _ | exact bI_lo _ | exact bI_hi _ | exact bI_hi' _ | exact trivial | exact Or.inl rfl | exact Or.inr rfl | (exfalso; omega)))
    exact hQ
  | succ m ih =>
    intro i v8 v9 hm hi
    have hw := hV.2.2.1 i (by omega) hi
    have ho := hV.2.1 i (by omega) hi
    have hpi := p2 i (by omega) hi
    have hbh := hH i (by omega) hi
    have hdec := VV_decI hV (i := i) (by omega) (dB V l) 4 e (by omega)
    have v1 := VV_r hV (dN V - (i + 1)).toNat (dB V l) 4 e (by omega)
    have v2 := VV_r hV (dN V - i).toNat (fun _ => False) (4 + 1) 0 (by omega)
    have hm2 := hV.2.2.2.1 i 4 (e + cif (dB V l i) (dF V) 0)
    have v3 := VV_r hV (dN V - (i + 1)).toNat (dB V i) 4 (e + cif (dB V l i) (dF V) 0 + dW V i) (by omega)
    have v4 := VV_r hV (dN V - i).toNat (dB V l) 4 e (by omega)
    have goal := fun v8 v9 => ih (i - 1) v8 v9 (by omega) (by omega)
    rw [show i - 1 + 1 = i from by omega] at goal
    rw [← hpi.1] at hw
    rw [← hpi.2] at ho
    generalize hg1 : VV V (dN V - (i + 1)).toNat (dB V l) 4 e = W1 at *
    generalize hg2 : VV V (dN V - i).toNat (dB V l) 4 e = W0 at *
    refine aw_tree (I1_ok X _) [(true, 49), (false, 24), (true, 20)] [26] rfl ?_
    dsimp only
    repeat' (first | refine And.intro ?_ ?_ | (refine aImp_e0 ?_; intro _) | (refine aImp_n0 ?_; intro _) | (refine aImp_i ?_; intro _))
    all_goals (try (first | omega | exact bI_01 _ | exact bI_lo _ | exact bI_hi _ | exact bI_hi' _ | exact trivial | exact Or.inl rfl | exact Or.inr rfl | (exfalso; omega)))
    refine aw_cf0 (c_pBarred _ sb ss T G L O R P C B D S N (MV bm (BH 73 (b0 :: b1 :: b2 :: b3 :: x :: bt))) l i V hP (by omega) hi (by omega)) rfl ?_
    by_cases hb : dB V l i
    · rw [bI_t hb]
      rw [cif_t hb, cif_t hb] at hdec
      rw [cif_t hb] at hm2 v3
      have hF' := hF
      rw [← p8.1] at hdec hm2 v3 hF'
      by_cases hfit : e + P.2.2.2.2.2.2.2.2.2.2.1 + dW V i ≤ dX V 4
      · rw [cif_t hfit] at hdec
        have hAi := hA i (e + P.2.2.2.2.2.2.2.2.2.2.1) (by omega) hi (by omega) (by omega)
        have goal2 := goal (iv 1) (iv (e + P.2.2.2.2.2.2.2.2.2.2.1))
        refine aw_tree (I1_ok X _) [(true, 49), (false, 24), (true, 20)] [26] rfl ?_
        dsimp only
        repeat' (first | refine And.intro ?_ ?_ | (refine aImp_e0 ?_; intro _) | (refine aImp_n0 ?_; intro _) | (refine aImp_i ?_; intro _))
        all_goals (try (first | omega | exact bI_01 _ | exact bI_lo _ | exact bI_hi _ | exact bI_hi' _ | exact trivial | exact Or.inl rfl | exact Or.inr rfl | (exfalso; omega)))
        refine aw_cf0 (c_sitPrice4 _ sb ss T G L O R P C B D S N bm b0 b1 b2 b3 bt x V i (e + P.2.2.2.2.2.2.2.2.2.2.1) hV hP ⟨hx.1, hx.2.1⟩ (by omega) (by omega) hAi) rfl ?_
        refine aw_tree (I1_ok X _) [(true, 49), (false, 24), (true, 20)] [26] rfl ?_
        dsimp only
        repeat' (first | refine And.intro ?_ ?_ | (refine aImp_e0 ?_; intro _) | (refine aImp_n0 ?_; intro _) | (refine aImp_i ?_; intro _))
        all_goals (try (first | omega | exact bI_01 _ | exact bI_lo _ | exact bI_hi _ | exact bI_hi' _ | exact trivial | exact Or.inl rfl | exact Or.inr rfl | (exfalso; omega)))
        have em : min (min (x.2.2.2.2.2.2 i) (P.2.2.1 i + W1)) (VV V (dN V - (i + 1)).toNat (dB V i) 4 (e + P.2.2.2.2.2.2.2.2.2.2.1 + dW V i) + dM V i 4 (e + P.2.2.2.2.2.2.2.2.2.2.1) + P.2.2.2.2.2.2.2.2.2.2.2.1) = W0 := by
          rw [hdec, hbh, hpi.2, p8.2]
        rw [em]
        exact goal2
      · rw [cif_f hfit] at hdec
        have goal2 := goal (iv 1) (iv (e + P.2.2.2.2.2.2.2.2.2.2.1))
        refine aw_tree (I1_ok X _) [(true, 49), (false, 24), (true, 20)] [26] rfl ?_
        dsimp only
        repeat' (first | refine And.intro ?_ ?_ | (refine aImp_e0 ?_; intro _) | (refine aImp_n0 ?_; intro _) | (refine aImp_i ?_; intro _))
        all_goals (try (first | omega | exact bI_01 _ | exact bI_lo _ | exact bI_hi _ | exact bI_hi' _ | exact trivial | exact Or.inl rfl | exact Or.inr rfl | (exfalso; omega)))
        have em : min (x.2.2.2.2.2.2 i) (P.2.2.1 i + W1) = W0 := by
          rw [hbh, hpi.2]
          omega
        rw [em]
        exact goal2
    · rw [bI_f hb]
      rw [cif_f hb, cif_f hb, Int.add_zero, Int.add_zero] at hdec
      rw [cif_f hb, Int.add_zero] at hm2 v3
      by_cases hfit : e + dW V i ≤ dX V 4
      · rw [cif_t hfit] at hdec
        have hAi := hA i e (by omega) hi (by omega) (by omega)
        have goal2 := goal (iv 0) (iv e)
        refine aw_tree (I1_ok X _) [(true, 49), (false, 24), (true, 20)] [26] rfl ?_
        dsimp only
        repeat' (first | refine And.intro ?_ ?_ | (refine aImp_e0 ?_; intro _) | (refine aImp_n0 ?_; intro _) | (refine aImp_i ?_; intro _))
        all_goals (try (first | omega | exact bI_01 _ | exact bI_lo _ | exact bI_hi _ | exact bI_hi' _ | exact trivial | exact Or.inl rfl | exact Or.inr rfl | (exfalso; omega)))
        refine aw_cf0 (c_sitPrice4 _ sb ss T G L O R P C B D S N bm b0 b1 b2 b3 bt x V i e hV hP ⟨hx.1, hx.2.1⟩ (by omega) (by omega) hAi) rfl ?_
        refine aw_tree (I1_ok X _) [(true, 49), (false, 24), (true, 20)] [26] rfl ?_
        dsimp only
        repeat' (first | refine And.intro ?_ ?_ | (refine aImp_e0 ?_; intro _) | (refine aImp_n0 ?_; intro _) | (refine aImp_i ?_; intro _))
        all_goals (try (first | omega | exact bI_01 _ | exact bI_lo _ | exact bI_hi _ | exact bI_hi' _ | exact trivial | exact Or.inl rfl | exact Or.inr rfl | (exfalso; omega)))
        have em : min (min (x.2.2.2.2.2.2 i) (P.2.2.1 i + W1)) (VV V (dN V - (i + 1)).toNat (dB V i) 4 (e + dW V i) + dM V i 4 e + 0) = W0 := by
          rw [hdec, hbh, hpi.2, Int.add_zero]
        rw [em]
        exact goal2
      · rw [cif_f hfit] at hdec
        have goal2 := goal (iv 0) (iv e)
        refine aw_tree (I1_ok X _) [(true, 49), (false, 24), (true, 20)] [26] rfl ?_
        dsimp only
        repeat' (first | refine And.intro ?_ ?_ | (refine aImp_e0 ?_; intro _) | (refine aImp_n0 ?_; intro _) | (refine aImp_i ?_; intro _))
        all_goals (try (first | omega | exact bI_01 _ | exact bI_lo _ | exact bI_hi _ | exact bI_hi' _ | exact trivial | exact Or.inl rfl | exact Or.inr rfl | (exfalso; omega)))
        have em : min (x.2.2.2.2.2.2 i) (P.2.2.1 i + W1) = W0 := by
          rw [hbh, hpi.2]
          omega
        rw [em]
        exact goal2
theorem c_priceBeside4 {X : AX} (d : Nat) (sb ss : Nat) (T : TyT) (G : TyG) (L : TyL) (O : TyO) (R : TyR) (P : TyP) (C : TyC) (B D : TyB) (S N : TyS) (bm : AC24) (b0 b1 b2 b3 : TyBn) (bt : List TyBn) (x : TyBn) (V : DP) (fr l e : Int) (hV : kD V) (hP : rP P V) (hx : x.1 = 4 ∧ (0 ≤ x.2.1 ∧ x.2.1 ≤ 40) ∧ x.2.1 = dX V 4 ∧ 4 < dR V) (hf : 0 ≤ fr ∧ fr ≤ dN V) (hl : -1 ≤ l ∧ l < fr) (he : 0 ≤ e ∧ e ≤ x.2.1) (hR : tR V 4 x fr) (hA : tA V 4 x fr) (hH : tH V 4 x fr) :
    AF X (d + 5) 0 0 30 [rf 17, rf 89, iv fr, iv l, iv e] (CH sb ss T G L O R P C B D S N (MV bm (BH 73 (b0 :: b1 :: b2 :: b3 :: x :: bt)))) (some (iv (VV V (dN V - fr).toNat (dB V l) 4 e))) (CH sb ss T G L O R P C B D S N (MV bm (BH 73 (b0 :: b1 :: b2 :: b3 :: x :: bt)))) := by
  have hP' := hP
  obtain ⟨p1, p2, p3, p4, p5, p6, p7, p8, p9, p10⟩ := hP'
  have hn := hV.1
  have go : ∀ ub : Int, fr ≤ ub → ub ≤ dN V → (∀ j, ub ≤ j → j < dN V → ¬ dB V l j) → AW X (d + 5) 0 0 30 13 [rf 17, rf 89, iv fr, iv l, iv e, jk, jk, jk, jk, jk] [iv ub] (CH sb ss T G L O R P C B D S N (MV bm (BH 73 (b0 :: b1 :: b2 :: b3 :: x :: bt)))) (fun r' h'' => r' = some (iv (VV V (dN V - fr).toNat (dB V l) 4 e)) ∧ h'' = (CH sb ss T G L O R P C B D S N (MV bm (BH 73 (b0 :: b1 :: b2 :: b3 :: x :: bt))))) := by
    intro ub hub hub2 hno
    have hs := slot_b (n := 33) (w := x.2.1) (i := ub) (u := e) (by omega) (by omega) he
    have hr := hR ub e hub hub2 he.1 he.2
    have hcg := VV_congr (D := V) (dN V - ub).toNat (fun _ => False) (dB V l) 4 e (fun j j0 j1 => ⟨fun k => k.elim, fun k => hno j (by omega) j1 k⟩)
    refine aw_tree (I1_ok X _) [(true, 49), (false, 24), (true, 20)] [26] rfl ?_
    dsimp only
    repeat' (first | refine And.intro ?_ ?_ | (refine aImp_e0 ?_; intro _) | (refine aImp_n0 ?_; intro _) | (refine aImp_i ?_; intro _))
    all_goals (try (first | omega | exact bI_01 _ | exact bI_lo _ | exact bI_hi _ | exact bI_hi' _ | exact trivial | exact Or.inl rfl | exact Or.inr rfl | (exfalso; omega)))
    rw [hr, hcg]
    have goal := c_pb_loop4 (X := X) d sb ss T G L O R P C B D S N bm b0 b1 b2 b3 bt x V fr l e ub (Q := fun r' h'' => r' = some (iv (VV V (dN V - fr).toNat (dB V l) 4 e)) ∧ h'' = (CH sb ss T G L O R P C B D S N (MV bm (BH 73 (b0 :: b1 :: b2 :: b3 :: x :: bt))))) hV hP hx hf hl he hA hH ⟨rfl, rfl⟩ (ub - fr).toNat (ub - 1) jk jk (by omega) (by omega)
    rw [show ub - 1 + 1 = ub from by omega] at goal
    exact goal
  by_cases h0 : l = -1
  · subst h0
    refine aw_tree (I1_ok X _) [(true, 49), (false, 24), (true, 20)] [13] rfl ?_
    dsimp only
    repeat' (first | refine And.intro ?_ ?_ | (refine aImp_e0 ?_; intro _) | (refine aImp_n0 ?_; intro _) | (refine aImp_i ?_; intro _))
    all_goals (try (first | omega | exact bI_01 _ | exact bI_lo _ | exact bI_hi _ | exact bI_hi' _ | exact trivial | exact Or.inl rfl | exact Or.inr rfl | (exfalso; omega)))
    exact go fr (by omega) (by omega) (fun j _ _ => p10 j)
  · have hlb := p3 l (by omega) (by omega)
    refine aw_tree (I1_ok X _) [(true, 49), (false, 24), (true, 20)] [13] rfl ?_
    dsimp only
    repeat' (first | refine And.intro ?_ ?_ | (refine aImp_e0 ?_; intro _) | (refine aImp_n0 ?_; intro _) | (refine aImp_i ?_; intro _))
    all_goals (try (first | omega | exact bI_01 _ | exact bI_lo _ | exact bI_hi _ | exact bI_hi' _ | exact trivial | exact Or.inl rfl | exact Or.inr rfl | (exfalso; omega)))
    refine go (max fr (P.2.2.2.2.1 l + 1)) (by omega) (by omega) (fun j j0 j1 => hlb.2 j (by omega) j1 (by omega))
theorem c_pb_loop5 {X : AX} (d : Nat) (sb ss : Nat) (T : TyT) (G : TyG) (L : TyL) (O : TyO) (R : TyR) (P : TyP) (C : TyC) (B D : TyB) (S N : TyS) (bm : AC24) (b0 b1 b2 b3 b4 : TyBn) (bt : List TyBn) (x : TyBn) (V : DP) (fr l e ub : Int) {Q : AQ} (hV : kD V) (hP : rP P V) (hx : x.1 = 5 ∧ (0 ≤ x.2.1 ∧ x.2.1 ≤ 40) ∧ x.2.1 = dX V 5 ∧ 5 < dR V) (hf : 0 ≤ fr ∧ fr ≤ dN V) (hl : -1 ≤ l ∧ l < fr) (he : 0 ≤ e ∧ e ≤ x.2.1) (hA : tA V 5 x fr) (hH : tH V 5 x fr)
    (hQ : Q (some (iv (VV V (dN V - fr).toNat (dB V l) 5 e))) (CH sb ss T G L O R P C B D S N (MV bm (BH 73 (b0 :: b1 :: b2 :: b3 :: b4 :: x :: bt))))) :
    ∀ (m : Nat) (i : Int) (v8 v9 : AV), i + 1 = fr + m → i < dN V → AW X (d + 5) 0 0 30 26 [rf 17, rf 93, iv fr, iv l, iv e, iv ub, iv (VV V (dN V - (i + 1)).toNat (dB V l) 5 e), iv i, v8, v9] [] (CH sb ss T G L O R P C B D S N (MV bm (BH 73 (b0 :: b1 :: b2 :: b3 :: b4 :: x :: bt)))) Q := by
  have hP' := hP
  obtain ⟨p1, p2, p3, p4, p5, p6, p7, p8, p9, p10⟩ := hP'
  have hn := hV.1
  have hF := hV.2.2.2.2.2.2.1
  have hE := hV.2.2.2.2.2.2.2
  intro m
  induction m with
  | zero =>
    intro i v8 v9 hm hi
    have ei : i + 1 = fr := by omega
    rw [ei]
    refine aw_tree (I1_ok X _) [(true, 49), (false, 24), (true, 24)] [26] rfl ?_
    dsimp only
    repeat' (first | refine And.intro ?_ ?_ | (refine aImp_e0 ?_; intro _) | (refine aImp_n0 ?_; intro _) | (refine aImp_i ?_; intro _))
    all_goals (try (first | omega | exact bI_01 _ | exact bI_lo _ | exact bI_hi _ | exact bI_hi' _ | exact trivial | exact Or.inl rfl | exact Or.inr rfl | (exfalso; omega)))
    exact hQ
  | succ m ih =>
    intro i v8 v9 hm hi
    have hw := hV.2.2.1 i (by omega) hi
    have ho := hV.2.1 i (by omega) hi
    have hpi := p2 i (by omega) hi
    have hbh := hH i (by omega) hi
    have hdec := VV_decI hV (i := i) (by omega) (dB V l) 5 e (by omega)
    have v1 := VV_r hV (dN V - (i + 1)).toNat (dB V l) 5 e (by omega)
    have v2 := VV_r hV (dN V - i).toNat (fun _ => False) (5 + 1) 0 (by omega)
    have hm2 := hV.2.2.2.1 i 5 (e + cif (dB V l i) (dF V) 0)
    have v3 := VV_r hV (dN V - (i + 1)).toNat (dB V i) 5 (e + cif (dB V l i) (dF V) 0 + dW V i) (by omega)
    have v4 := VV_r hV (dN V - i).toNat (dB V l) 5 e (by omega)
    have goal := fun v8 v9 => ih (i - 1) v8 v9 (by omega) (by omega)
    rw [show i - 1 + 1 = i from by omega] at goal
    rw [← hpi.1] at hw
    rw [← hpi.2] at ho
    generalize hg1 : VV V (dN V - (i + 1)).toNat (dB V l) 5 e = W1 at *
    generalize hg2 : VV V (dN V - i).toNat (dB V l) 5 e = W0 at *
    refine aw_tree (I1_ok X _) [(true, 49), (false, 24), (true, 24)] [26] rfl ?_
    dsimp only
    repeat' (first | refine And.intro ?_ ?_ | (refine aImp_e0 ?_; intro _) | (refine aImp_n0 ?_; intro _) | (refine aImp_i ?_; intro _))
    all_goals (try (first | omega | exact bI_01 _ | exact bI_lo _ | exact bI_hi _ | exact bI_hi' _ | exact trivial | exact Or.inl rfl | exact Or.inr rfl | (exfalso; omega)))
    refine aw_cf0 (c_pBarred _ sb ss T G L O R P C B D S N (MV bm (BH 73 (b0 :: b1 :: b2 :: b3 :: b4 :: x :: bt))) l i V hP (by omega) hi (by omega)) rfl ?_
    by_cases hb : dB V l i
    · rw [bI_t hb]
      rw [cif_t hb, cif_t hb] at hdec
      rw [cif_t hb] at hm2 v3
      have hF' := hF
      rw [← p8.1] at hdec hm2 v3 hF'
      by_cases hfit : e + P.2.2.2.2.2.2.2.2.2.2.1 + dW V i ≤ dX V 5
      · rw [cif_t hfit] at hdec
        have hAi := hA i (e + P.2.2.2.2.2.2.2.2.2.2.1) (by omega) hi (by omega) (by omega)
        have goal2 := goal (iv 1) (iv (e + P.2.2.2.2.2.2.2.2.2.2.1))
        refine aw_tree (I1_ok X _) [(true, 49), (false, 24), (true, 24)] [26] rfl ?_
        dsimp only
        repeat' (first | refine And.intro ?_ ?_ | (refine aImp_e0 ?_; intro _) | (refine aImp_n0 ?_; intro _) | (refine aImp_i ?_; intro _))
        all_goals (try (first | omega | exact bI_01 _ | exact bI_lo _ | exact bI_hi _ | exact bI_hi' _ | exact trivial | exact Or.inl rfl | exact Or.inr rfl | (exfalso; omega)))
        refine aw_cf0 (c_sitPrice5 _ sb ss T G L O R P C B D S N bm b0 b1 b2 b3 b4 bt x V i (e + P.2.2.2.2.2.2.2.2.2.2.1) hV hP ⟨hx.1, hx.2.1⟩ (by omega) (by omega) hAi) rfl ?_
        refine aw_tree (I1_ok X _) [(true, 49), (false, 24), (true, 24)] [26] rfl ?_
        dsimp only
        repeat' (first | refine And.intro ?_ ?_ | (refine aImp_e0 ?_; intro _) | (refine aImp_n0 ?_; intro _) | (refine aImp_i ?_; intro _))
        all_goals (try (first | omega | exact bI_01 _ | exact bI_lo _ | exact bI_hi _ | exact bI_hi' _ | exact trivial | exact Or.inl rfl | exact Or.inr rfl | (exfalso; omega)))
        have em : min (min (x.2.2.2.2.2.2 i) (P.2.2.1 i + W1)) (VV V (dN V - (i + 1)).toNat (dB V i) 5 (e + P.2.2.2.2.2.2.2.2.2.2.1 + dW V i) + dM V i 5 (e + P.2.2.2.2.2.2.2.2.2.2.1) + P.2.2.2.2.2.2.2.2.2.2.2.1) = W0 := by
          rw [hdec, hbh, hpi.2, p8.2]
        rw [em]
        exact goal2
      · rw [cif_f hfit] at hdec
        have goal2 := goal (iv 1) (iv (e + P.2.2.2.2.2.2.2.2.2.2.1))
        refine aw_tree (I1_ok X _) [(true, 49), (false, 24), (true, 24)] [26] rfl ?_
        dsimp only
        repeat' (first | refine And.intro ?_ ?_ | (refine aImp_e0 ?_; intro _) | (refine aImp_n0 ?_; intro _) | (refine aImp_i ?_; intro _))
        all_goals (try (first | omega | exact bI_01 _ | exact bI_lo _ | exact bI_hi _ | exact bI_hi' _ | exact trivial | exact Or.inl rfl | exact Or.inr rfl | (exfalso; omega)))
        have em : min (x.2.2.2.2.2.2 i) (P.2.2.1 i + W1) = W0 := by
          rw [hbh, hpi.2]
          omega
        rw [em]
        exact goal2
    · rw [bI_f hb]
      rw [cif_f hb, cif_f hb, Int.add_zero, Int.add_zero] at hdec
      rw [cif_f hb, Int.add_zero] at hm2 v3
      by_cases hfit : e + dW V i ≤ dX V 5
      · rw [cif_t hfit] at hdec
        have hAi := hA i e (by omega) hi (by omega) (by omega)
        have goal2 := goal (iv 0) (iv e)
        refine aw_tree (I1_ok X _) [(true, 49), (false, 24), (true, 24)] [26] rfl ?_
        dsimp only
        repeat' (first | refine And.intro ?_ ?_ | (refine aImp_e0 ?_; intro _) | (refine aImp_n0 ?_; intro _) | (refine aImp_i ?_; intro _))
        all_goals (try (first | omega | exact bI_01 _ | exact bI_lo _ | exact bI_hi _ | exact bI_hi' _ | exact trivial | exact Or.inl rfl | exact Or.inr rfl | (exfalso; omega)))
        refine aw_cf0 (c_sitPrice5 _ sb ss T G L O R P C B D S N bm b0 b1 b2 b3 b4 bt x V i e hV hP ⟨hx.1, hx.2.1⟩ (by omega) (by omega) hAi) rfl ?_
        refine aw_tree (I1_ok X _) [(true, 49), (false, 24), (true, 24)] [26] rfl ?_
        dsimp only
        repeat' (first | refine And.intro ?_ ?_ | (refine aImp_e0 ?_; intro _) | (refine aImp_n0 ?_; intro _) | (refine aImp_i ?_; intro _))
        all_goals (try (first | omega | exact bI_01 _ | exact bI_lo _ | exact bI_hi _ | exact bI_hi' _ | exact trivial | exact Or.inl rfl | exact Or.inr rfl | (exfalso; omega)))
        have em : min (min (x.2.2.2.2.2.2 i) (P.2.2.1 i + W1)) (VV V (dN V - (i + 1)).toNat (dB V i) 5 (e + dW V i) + dM V i 5 e + 0) = W0 := by
          rw [hdec, hbh, hpi.2, Int.add_zero]
        rw [em]
        exact goal2
      · rw [cif_f hfit] at hdec
        have goal2 := goal (iv 0) (iv e)
        refine aw_tree (I1_ok X _) [(true, 49), (false, 24), (true, 24)] [26] rfl ?_
        dsimp only
        repeat' (first | refine And.intro ?_ ?_ | (refine aImp_e0 ?_; intro _) | (refine aImp_n0 ?_; intro _) | (refine aImp_i ?_; intro _))
        all_goals (try (first | omega | exact bI_01 _ | exact bI_lo _ | exact bI_hi _ | exact bI_hi' _ | exact trivial | exact Or.inl rfl | exact Or.inr rfl | (exfalso; omega)))
        have em : min (x.2.2.2.2.2.2 i) (P.2.2.1 i + W1) = W0 := by
          rw [hbh, hpi.2]
          omega
        rw [em]
        exact goal2
theorem c_priceBeside5 {X : AX} (d : Nat) (sb ss : Nat) (T : TyT) (G : TyG) (L : TyL) (O : TyO) (R : TyR) (P : TyP) (C : TyC) (B D : TyB) (S N : TyS) (bm : AC24) (b0 b1 b2 b3 b4 : TyBn) (bt : List TyBn) (x : TyBn) (V : DP) (fr l e : Int) (hV : kD V) (hP : rP P V) (hx : x.1 = 5 ∧ (0 ≤ x.2.1 ∧ x.2.1 ≤ 40) ∧ x.2.1 = dX V 5 ∧ 5 < dR V) (hf : 0 ≤ fr ∧ fr ≤ dN V) (hl : -1 ≤ l ∧ l < fr) (he : 0 ≤ e ∧ e ≤ x.2.1) (hR : tR V 5 x fr) (hA : tA V 5 x fr) (hH : tH V 5 x fr) :
    AF X (d + 5) 0 0 30 [rf 17, rf 93, iv fr, iv l, iv e] (CH sb ss T G L O R P C B D S N (MV bm (BH 73 (b0 :: b1 :: b2 :: b3 :: b4 :: x :: bt)))) (some (iv (VV V (dN V - fr).toNat (dB V l) 5 e))) (CH sb ss T G L O R P C B D S N (MV bm (BH 73 (b0 :: b1 :: b2 :: b3 :: b4 :: x :: bt)))) := by
  have hP' := hP
  obtain ⟨p1, p2, p3, p4, p5, p6, p7, p8, p9, p10⟩ := hP'
  have hn := hV.1
  have go : ∀ ub : Int, fr ≤ ub → ub ≤ dN V → (∀ j, ub ≤ j → j < dN V → ¬ dB V l j) → AW X (d + 5) 0 0 30 13 [rf 17, rf 93, iv fr, iv l, iv e, jk, jk, jk, jk, jk] [iv ub] (CH sb ss T G L O R P C B D S N (MV bm (BH 73 (b0 :: b1 :: b2 :: b3 :: b4 :: x :: bt)))) (fun r' h'' => r' = some (iv (VV V (dN V - fr).toNat (dB V l) 5 e)) ∧ h'' = (CH sb ss T G L O R P C B D S N (MV bm (BH 73 (b0 :: b1 :: b2 :: b3 :: b4 :: x :: bt))))) := by
    intro ub hub hub2 hno
    have hs := slot_b (n := 33) (w := x.2.1) (i := ub) (u := e) (by omega) (by omega) he
    have hr := hR ub e hub hub2 he.1 he.2
    have hcg := VV_congr (D := V) (dN V - ub).toNat (fun _ => False) (dB V l) 5 e (fun j j0 j1 => ⟨fun k => k.elim, fun k => hno j (by omega) j1 k⟩)
    refine aw_tree (I1_ok X _) [(true, 49), (false, 24), (true, 24)] [26] rfl ?_
    dsimp only
    repeat' (first | refine And.intro ?_ ?_ | (refine aImp_e0 ?_; intro _) | (refine aImp_n0 ?_; intro _) | (refine aImp_i ?_; intro _))
    all_goals (try (first | omega | exact bI_01 _ | exact bI_lo _ | exact bI_hi _ | exact bI_hi' _ | exact trivial | exact Or.inl rfl | exact Or.inr rfl | (exfalso; omega)))
    rw [hr, hcg]
    have goal := c_pb_loop5 (X := X) d sb ss T G L O R P C B D S N bm b0 b1 b2 b3 b4 bt x V fr l e ub (Q := fun r' h'' => r' = some (iv (VV V (dN V - fr).toNat (dB V l) 5 e)) ∧ h'' = (CH sb ss T G L O R P C B D S N (MV bm (BH 73 (b0 :: b1 :: b2 :: b3 :: b4 :: x :: bt))))) hV hP hx hf hl he hA hH ⟨rfl, rfl⟩ (ub - fr).toNat (ub - 1) jk jk (by omega) (by omega)
    rw [show ub - 1 + 1 = ub from by omega] at goal
    exact goal
  by_cases h0 : l = -1
  · subst h0
    refine aw_tree (I1_ok X _) [(true, 49), (false, 24), (true, 24)] [13] rfl ?_
    dsimp only
    repeat' (first | refine And.intro ?_ ?_ | (refine aImp_e0 ?_; intro _) | (refine aImp_n0 ?_; intro _) | (refine aImp_i ?_; intro _))
    all_goals (try (first | omega | exact bI_01 _ | exact bI_lo _ | exact bI_hi _ | exact bI_hi' _ | exact trivial | exact Or.inl rfl | exact Or.inr rfl | (exfalso; omega)))
    exact go fr (by omega) (by omega) (fun j _ _ => p10 j)
  · have hlb := p3 l (by omega) (by omega)
    refine aw_tree (I1_ok X _) [(true, 49), (false, 24), (true, 24)] [13] rfl ?_
    dsimp only
    repeat' (first | refine And.intro ?_ ?_ | (refine aImp_e0 ?_; intro _) | (refine aImp_n0 ?_; intro _) | (refine aImp_i ?_; intro _))
    all_goals (try (first | omega | exact bI_01 _ | exact bI_lo _ | exact bI_hi _ | exact bI_hi' _ | exact trivial | exact Or.inl rfl | exact Or.inr rfl | (exfalso; omega)))
    refine go (max fr (P.2.2.2.2.1 l + 1)) (by omega) (by omega) (fun j j0 j1 => hlb.2 j (by omega) j1 (by omega))

/-- a bench with other tables -/
abbrev bnT (x : TyBn) (f g h : FN) : TyBn := (x.1, x.2.1, x.2.2.1, x.2.2.2.1, f, g, h)
set_option maxRecDepth 100000 in
theorem c_fg_loop0 {X : AX} (d : Nat) (sb ss : Nat) (T : TyT) (G : TyG) (L : TyL) (O : TyO) (R : TyR) (P : TyP) (C : TyC) (B D : TyB) (S N : TyS) (bm : AC24) (bt : List TyBn) (x : TyBn) (V : DP) (i : Int) {Q : AQ} (hV : kD V) (hP : rP P V) (hx : x.1 = 0 ∧ (0 ≤ x.2.1 ∧ x.2.1 ≤ 40) ∧ x.2.1 = dX V 0 ∧ 0 < dR V) (hi : 0 ≤ i ∧ i < dN V) (hh : FN)
    (hH : ∀ j, i ≤ j → j < dN V → hh j = VV V (dN V - j).toNat (fun _ => False) (0 + 1) 0)
    (hQ : ∀ f g : FN, tR V 0 (bnT x f g hh) i → tA V 0 (bnT x f g hh) i → Q none (CH sb ss T G L O R P C B D S N (MV bm (BH 73 (bnT x f g hh :: bt))))) :
    ∀ (m : Nat) (u : Int) (f g : FN) (v4 v5 : AV), u + m = x.2.1 + 1 → 0 ≤ u → tR V 0 (bnT x f g hh) (i + 1) → tA V 0 (bnT x f g hh) (i + 1) → (∀ u', 0 ≤ u' → u' < u → f (i * (x.2.1 + 1) + u') = VV V (dN V - i).toNat (fun _ => False) 0 u') → (∀ u', 0 ≤ u' → u' < u → u' + dW V i ≤ x.2.1 → g (i * (x.2.1 + 1) + u') = VV V (dN V - (i + 1)).toNat (dB V i) 0 (u' + dW V i)) → AW X (d + 6) 0 0 29 2 [rf 17, rf 73, iv i, iv u, v4, v5] [] (CH sb ss T G L O R P C B D S N (MV bm (BH 73 (bnT x f g hh :: bt)))) Q := by
  have hP' := hP
  obtain ⟨p1, p2, p3, p4, p5, p6, p7, p8, p9, p10⟩ := hP'
  have hn := hV.1
  have hw := hV.2.2.1 i hi.1 hi.2
  have ho := hV.2.1 i hi.1 hi.2
  have hpi := p2 i hi.1 hi.2
  rw [← hpi.2] at ho
  have hbh := hH i (by omega) hi.2
  intro m
  induction m with
  | zero =>
    intro u f g v4 v5 hm u0 hR hA a1 a2
    refine aw_tree (I1_ok X _) [(true, 49), (false, 24), (true, 4)] [2] rfl ?_
    try dsimp only [bnT]
    repeat' (first | refine And.intro ?_ ?_ | (refine aImp_e0 ?_; intro _) | (refine aImp_n0 ?_; intro _) | (refine aImp_i ?_; intro _))
    all_goals (try (first | omega | exact bI_01 _ | exact bI_lo _ | exact bI_hi _ | exact bI_hi' _ | exact trivial | exact Or.inl rfl | exact Or.inr rfl | (exfalso; omega)))
    refine hQ f g (fun j w' j0 j1 w0 w1 => ?_) (fun j p j0 j1 w0 w1 => ?_)
    · by_cases e : j = i
      · rw [e]; exact a1 w' w0 (by (try dsimp only at w1); omega)
      · exact hR j w' (by omega) j1 w0 w1
    · by_cases e : j = i
      · rw [e] at w1 ⊢; exact a2 p w0 (by (try dsimp only at w1); omega) w1
      · exact hA j p (by omega) j1 w0 w1
  | succ m ih =>
    intro u f g v4 v5 hm u0 hR hA a1 a2
    have hs := slot_b (n := 32) (w := x.2.1) (i := i) (u := u) (by omega) (by omega) (by omega)
    have hs1 := slot_b (n := 33) (w := x.2.1) (i := i + 1) (u := u) (by omega) (by omega) (by omega)
    have hr1 : f ((i + 1) * (x.2.1 + 1) + u) = VV V (dN V - (i + 1)).toNat (fun _ => False) 0 u := hR (i + 1) u (by omega) (by omega) u0 (by (try dsimp only); omega)
    have v1 := VV_r hV (dN V - (i + 1)).toNat (fun _ => False) 0 u (by omega)
    have v2 := VV_r hV (dN V - i).toNat (fun _ => False) (0 + 1) 0 (by omega)
    have v3 := VV_r hV (dN V - (i + 1)).toNat (dB V i) 0 (u + dW V i) (by omega)
    have v4' := VV_r hV (dN V - i).toNat (fun _ => False) 0 u (by omega)
    have hmv := hV.2.2.2.1 i 0 u
    have hdec := VV_decI hV (i := i) hi (fun _ => False) 0 u (by omega)
    rw [cif_f (fun k => k), cif_f (fun k => k), Int.add_zero] at hdec
    have hne : ∀ j w', 0 ≤ w' → w' ≤ x.2.1 → i + 1 ≤ j → j * (x.2.1 + 1) + w' ≠ i * (x.2.1 + 1) + u := fun j w' w0 w1 j0 e => by
      have := slot_inj ⟨w0, w1⟩ ⟨u0, by omega⟩ e
      omega
    have hne2 : ∀ w', w' < u → i * (x.2.1 + 1) + w' ≠ i * (x.2.1 + 1) + u := fun w' h e => by omega
    -- behind this place
    have fin : ∀ (g' : FN) (best : Int) (v5 : AV), best = VV V (dN V - i).toNat (fun _ => False) 0 u → tA V 0 (bnT x f g' hh) (i + 1) → (∀ u', 0 ≤ u' → u' < u + 1 → u' + dW V i ≤ x.2.1 → g' (i * (x.2.1 + 1) + u') = VV V (dN V - (i + 1)).toNat (dB V i) 0 (u' + dW V i)) → AW X (d + 6) 0 0 29 60 [rf 17, rf 73, iv i, iv u, iv best, v5] [] (CH sb ss T G L O R P C B D S N (MV bm (BH 73 (bnT x f g' hh :: bt)))) Q := by
      intro g' best v5 hbest hA' a2'
      refine aw_tree (I1_ok X _) [(true, 49), (false, 24), (true, 4)] [2] rfl ?_
      try dsimp only [bnT]
      repeat' (first | refine And.intro ?_ ?_ | (refine aImp_e0 ?_; intro _) | (refine aImp_n0 ?_; intro _) | (refine aImp_i ?_; intro _))
      all_goals (try (first | omega | exact bI_01 _ | exact bI_lo _ | exact bI_hi _ | exact bI_hi' _ | exact trivial | exact Or.inl rfl | exact Or.inr rfl | (exfalso; omega)))
      refine ih (u + 1) (aUp f (i * (x.2.1 + 1) + u) best) g' _ _ (by omega) (by omega) (fun j w' j0 j1 w0 w1 => ?_) hA' (fun u' u0' u1' => ?_) a2'
      · show aUp f (i * (x.2.1 + 1) + u) best (j * (x.2.1 + 1) + w') = _
        rw [aUp_n _ _ (hne j w' w0 w1 j0)]
        exact hR j w' j0 j1 w0 w1
      · by_cases e : u' = u
        · rw [e, aUp_s]; exact hbest
        · rw [aUp_n _ _ (hne2 u' (by omega))]
          exact a1 u' u0' (by omega)
    by_cases hfit : u + dW V i ≤ x.2.1
    · rw [cif_t (by omega)] at hdec
      refine aw_tree (I1_ok X _) [(true, 49), (false, 24), (true, 4)] [60] rfl ?_
      dsimp only [bnT]
      rw [hr1, hpi.1]
      repeat' (first | refine And.intro ?_ ?_ | (refine aImp_e0 ?_; intro _) | (refine aImp_n0 ?_; intro _) | (refine aImp_i ?_; intro _))
      all_goals (try (first | omega | exact bI_01 _ | exact bI_lo _ | exact bI_hi _ | exact bI_hi' _ | exact trivial | exact Or.inl rfl | exact Or.inr rfl | (exfalso; omega)))
      refine aw_cf0 (c_priceBeside0 _ sb ss T G L O R P C B D S N bm bt (bnT x f g hh) V (i + 1) i (u + dW V i) hV hP hx (by omega) (by omega) (by (try dsimp only); omega) hR hA (fun j j0 j1 => hH j (by omega) j1)) rfl ?_
      refine aw_tree (I1_ok X _) [(true, 49), (false, 24), (true, 4)] [60] rfl ?_
      try dsimp only [bnT]
      repeat' (first | refine And.intro ?_ ?_ | (refine aImp_e0 ?_; intro _) | (refine aImp_n0 ?_; intro _) | (refine aImp_i ?_; intro _))
      all_goals (try (first | omega | exact bI_01 _ | exact bI_lo _ | exact bI_hi _ | exact bI_hi' _ | exact trivial | exact Or.inl rfl | exact Or.inr rfl | (exfalso; omega)))
      refine aw_cf0 (c_sitPrice0 _ sb ss T G L O R P C B D S N bm bt (bnT x f (aUp g (i * (x.2.1 + 1) + u) (VV V (dN V - (i + 1)).toNat (dB V i) 0 (u + dW V i))) hh) V i u hV hP ⟨hx.1, hx.2.1⟩ hi ⟨u0, hfit⟩ (aUp_s _ _ _)) rfl ?_
      refine aw_tree (I1_ok X _) [(true, 49), (false, 24), (true, 4)] [60] rfl ?_
      try dsimp only [bnT]
      repeat' (first | refine And.intro ?_ ?_ | (refine aImp_e0 ?_; intro _) | (refine aImp_n0 ?_; intro _) | (refine aImp_i ?_; intro _))
      all_goals (try (first | omega | exact bI_01 _ | exact bI_lo _ | exact bI_hi _ | exact bI_hi' _ | exact trivial | exact Or.inl rfl | exact Or.inr rfl | (exfalso; omega)))
      refine fin (aUp g (i * (x.2.1 + 1) + u) (VV V (dN V - (i + 1)).toNat (dB V i) 0 (u + dW V i))) _ _ ?_ (fun j p j0 j1 w0 w1 => ?_) (fun u' u0' u1' w1 => ?_)
      · rw [hdec, hbh, hpi.2, Int.add_zero]
      · show aUp g (i * (x.2.1 + 1) + u) _ (j * (x.2.1 + 1) + p) = _
        rw [aUp_n _ _ (hne j p w0 (by have := hV.2.2.1 j (by omega) j1; (try dsimp only at w1); omega) j0)]
        exact hA j p j0 j1 w0 w1
      · by_cases e : u' = u
        · rw [e, aUp_s]
        · rw [aUp_n _ _ (hne2 u' (by omega))]
          exact a2 u' u0' (by omega) w1
    · rw [cif_f (by omega)] at hdec
      refine aw_tree (I1_ok X _) [(true, 49), (false, 24), (true, 4)] [60] rfl ?_
      dsimp only [bnT]
      rw [hr1, hpi.1]
      repeat' (first | refine And.intro ?_ ?_ | (refine aImp_e0 ?_; intro _) | (refine aImp_n0 ?_; intro _) | (refine aImp_i ?_; intro _))
      all_goals (try (first | omega | exact bI_01 _ | exact bI_lo _ | exact bI_hi _ | exact bI_hi' _ | exact trivial | exact Or.inl rfl | exact Or.inr rfl | (exfalso; omega)))
      refine fin g _ _ ?_ hA (fun u' u0' u1' w1 => a2 u' u0' (by omega) w1)
      rw [hbh, hpi.2]
      omega
set_option maxRecDepth 100000 in
theorem c_fg_loop1 {X : AX} (d : Nat) (sb ss : Nat) (T : TyT) (G : TyG) (L : TyL) (O : TyO) (R : TyR) (P : TyP) (C : TyC) (B D : TyB) (S N : TyS) (bm : AC24) (b0 : TyBn) (bt : List TyBn) (x : TyBn) (V : DP) (i : Int) {Q : AQ} (hV : kD V) (hP : rP P V) (hx : x.1 = 1 ∧ (0 ≤ x.2.1 ∧ x.2.1 ≤ 40) ∧ x.2.1 = dX V 1 ∧ 1 < dR V) (hi : 0 ≤ i ∧ i < dN V) (hh : FN)
    (hH : ∀ j, i ≤ j → j < dN V → hh j = VV V (dN V - j).toNat (fun _ => False) (1 + 1) 0)
    (hQ : ∀ f g : FN, tR V 1 (bnT x f g hh) i → tA V 1 (bnT x f g hh) i → Q none (CH sb ss T G L O R P C B D S N (MV bm (BH 73 (b0 :: bnT x f g hh :: bt))))) :
    ∀ (m : Nat) (u : Int) (f g : FN) (v4 v5 : AV), u + m = x.2.1 + 1 → 0 ≤ u → tR V 1 (bnT x f g hh) (i + 1) → tA V 1 (bnT x f g hh) (i + 1) → (∀ u', 0 ≤ u' → u' < u → f (i * (x.2.1 + 1) + u') = VV V (dN V - i).toNat (fun _ => False) 1 u') → (∀ u', 0 ≤ u' → u' < u → u' + dW V i ≤ x.2.1 → g (i * (x.2.1 + 1) + u') = VV V (dN V - (i + 1)).toNat (dB V i) 1 (u' + dW V i)) → AW X (d + 6) 0 0 29 2 [rf 17, rf 77, iv i, iv u, v4, v5] [] (CH sb ss T G L O R P C B D S N (MV bm (BH 73 (b0 :: bnT x f g hh :: bt)))) Q := by
  have hP' := hP
  obtain ⟨p1, p2, p3, p4, p5, p6, p7, p8, p9, p10⟩ := hP'
  have hn := hV.1
  have hw := hV.2.2.1 i hi.1 hi.2
  have ho := hV.2.1 i hi.1 hi.2
  have hpi := p2 i hi.1 hi.2
  rw [← hpi.2] at ho
  have hbh := hH i (by omega) hi.2
  intro m
  induction m with
  | zero =>
    intro u f g v4 v5 hm u0 hR hA a1 a2
    refine aw_tree (I1_ok X _) [(true, 49), (false, 24), (true, 8)] [2] rfl ?_
    try dsimp only [bnT]
    repeat' (first | refine And.intro ?_ ?_ | (refine aImp_e0 ?_; intro _) | (refine aImp_n0 ?_; intro _) | (refine aImp_i ?_; intro _))
    all_goals (try (first | omega | exact bI_01 _ | exact bI_lo _ | exact bI_hi _ | exact bI_hi' _ | exact trivial | exact Or.inl rfl | exact Or.inr rfl | (exfalso; omega)))
    refine hQ f g (fun j w' j0 j1 w0 w1 => ?_) (fun j p j0 j1 w0 w1 => ?_)
    · by_cases e : j = i
      · rw [e]; exact a1 w' w0 (by (try dsimp only at w1); omega)
      · exact hR j w' (by omega) j1 w0 w1
    · by_cases e : j = i
      · rw [e] at w1 ⊢; exact a2 p w0 (by (try dsimp only at w1); omega) w1
      · exact hA j p (by omega) j1 w0 w1
  | succ m ih =>
    intro u f g v4 v5 hm u0 hR hA a1 a2
    have hs := slot_b (n := 32) (w := x.2.1) (i := i) (u := u) (by omega) (by omega) (by omega)
    have hs1 := slot_b (n := 33) (w := x.2.1) (i := i + 1) (u := u) (by omega) (by omega) (by omega)
    have hr1 : f ((i + 1) * (x.2.1 + 1) + u) = VV V (dN V - (i + 1)).toNat (fun _ => False) 1 u := hR (i + 1) u (by omega) (by omega) u0 (by (try dsimp only); omega)
    have v1 := VV_r hV (dN V - (i + 1)).toNat (fun _ => False) 1 u (by omega)
    have v2 := VV_r hV (dN V - i).toNat (fun _ => False) (1 + 1) 0 (by omega)
    have v3 := VV_r hV (dN V - (i + 1)).toNat (dB V i) 1 (u + dW V i) (by omega)
    have v4' := VV_r hV (dN V - i).toNat (fun _ => False) 1 u (by omega)
    have hmv := hV.2.2.2.1 i 1 u
    have hdec := VV_decI hV (i := i) hi (fun _ => False) 1 u (by omega)
    rw [cif_f (fun k => k), cif_f (fun k => k), Int.add_zero] at hdec
    have hne : ∀ j w', 0 ≤ w' → w' ≤ x.2.1 → i + 1 ≤ j → j * (x.2.1 + 1) + w' ≠ i * (x.2.1 + 1) + u := fun j w' w0 w1 j0 e => by
      have := slot_inj ⟨w0, w1⟩ ⟨u0, by omega⟩ e
      omega
    have hne2 : ∀ w', w' < u → i * (x.2.1 + 1) + w' ≠ i * (x.2.1 + 1) + u := fun w' h e => by omega
    -- behind this place
    have fin : ∀ (g' : FN) (best : Int) (v5 : AV), best = VV V (dN V - i).toNat (fun _ => False) 1 u → tA V 1 (bnT x f g' hh) (i + 1) → (∀ u', 0 ≤ u' → u' < u + 1 → u' + dW V i ≤ x.2.1 → g' (i * (x.2.1 + 1) + u') = VV V (dN V - (i + 1)).toNat (dB V i) 1 (u' + dW V i)) → AW X (d + 6) 0 0 29 60 [rf 17, rf 77, iv i, iv u, iv best, v5] [] (CH sb ss T G L O R P C B D S N (MV bm (BH 73 (b0 :: bnT x f g' hh :: bt)))) Q := by
      intro g' best v5 hbest hA' a2'
      refine aw_tree (I1_ok X _) [(true, 49), (false, 24), (true, 8)] [2] rfl ?_
      try dsimp only [bnT]
      repeat' (first | refine And.intro ?_ ?_ | (refine aImp_e0 ?_; intro _) | (refine aImp_n0 ?_; intro _) | (refine aImp_i ?_; intro _))
      all_goals (try (first | omega | exact bI_01 _ | exact bI_lo _ | exact bI_hi _ | exact bI_hi' _ | exact trivial | exact Or.inl rfl | exact Or.inr rfl | (exfalso; omega)))
      refine ih (u + 1) (aUp f (i * (x.2.1 + 1) + u) best) g' _ _ (by omega) (by omega) (fun j w' j0 j1 w0 w1 => ?_) hA' (fun u' u0' u1' => ?_) a2'
      · show aUp f (i * (x.2.1 + 1) + u) best (j * (x.2.1 + 1) + w') = _
        rw [aUp_n _ _ (hne j w' w0 w1 j0)]
        exact hR j w' j0 j1 w0 w1
      · by_cases e : u' = u
        · rw [e, aUp_s]; exact hbest
        · rw [aUp_n _ _ (hne2 u' (by omega))]
          exact a1 u' u0' (by omega)
    by_cases hfit : u + dW V i ≤ x.2.1
    · rw [cif_t (by omega)] at hdec
      refine aw_tree (I1_ok X _) [(true, 49), (false, 24), (true, 8)] [60] rfl ?_
      dsimp only [bnT]
      rw [hr1, hpi.1]
      repeat' (first | refine And.intro ?_ ?_ | (refine aImp_e0 ?_; intro _) | (refine aImp_n0 ?_; intro _) | (refine aImp_i ?_; intro _))
      all_goals (try (first | omega | exact bI_01 _ | exact bI_lo _ | exact bI_hi _ | exact bI_hi' _ | exact trivial | exact Or.inl rfl | exact Or.inr rfl | (exfalso; omega)))
      refine aw_cf0 (c_priceBeside1 _ sb ss T G L O R P C B D S N bm b0 bt (bnT x f g hh) V (i + 1) i (u + dW V i) hV hP hx (by omega) (by omega) (by (try dsimp only); omega) hR hA (fun j j0 j1 => hH j (by omega) j1)) rfl ?_
      refine aw_tree (I1_ok X _) [(true, 49), (false, 24), (true, 8)] [60] rfl ?_
      try dsimp only [bnT]
      repeat' (first | refine And.intro ?_ ?_ | (refine aImp_e0 ?_; intro _) | (refine aImp_n0 ?_; intro _) | (refine aImp_i ?_; intro _))
      all_goals (try (first | omega | exact bI_01 _ | exact bI_lo _ | exact bI_hi _ | exact bI_hi' _ | exact trivial | exact Or.inl rfl | exact Or.inr rfl | (exfalso; omega)))
      refine aw_cf0 (c_sitPrice1 _ sb ss T G L O R P C B D S N bm b0 bt (bnT x f (aUp g (i * (x.2.1 + 1) + u) (VV V (dN V - (i + 1)).toNat (dB V i) 1 (u + dW V i))) hh) V i u hV hP ⟨hx.1, hx.2.1⟩ hi ⟨u0, hfit⟩ (aUp_s _ _ _)) rfl ?_
      refine aw_tree (I1_ok X _) [(true, 49), (false, 24), (true, 8)] [60] rfl ?_
      try dsimp only [bnT]
      repeat' (first | refine And.intro ?_ ?_ | (refine aImp_e0 ?_; intro _) | (refine aImp_n0 ?_; intro _) | (refine aImp_i ?_; intro _))
      all_goals (try (first | omega | exact bI_01 _ | exact bI_lo _ | exact bI_hi _ | exact bI_hi' _ | exact trivial | exact Or.inl rfl | exact Or.inr rfl | (exfalso; omega)))
      refine fin (aUp g (i * (x.2.1 + 1) + u) (VV V (dN V - (i + 1)).toNat (dB V i) 1 (u + dW V i))) _ _ ?_ (fun j p j0 j1 w0 w1 => ?_) (fun u' u0' u1' w1 => ?_)
      · rw [hdec, hbh, hpi.2, Int.add_zero]
      · show aUp g (i * (x.2.1 + 1) + u) _ (j * (x.2.1 + 1) + p) = _
        rw [aUp_n _ _ (hne j p w0 (by have := hV.2.2.1 j (by omega) j1; (try dsimp only at w1); omega) j0)]
        exact hA j p j0 j1 w0 w1
      · by_cases e : u' = u
        · rw [e, aUp_s]
        · rw [aUp_n _ _ (hne2 u' (by omega))]
          exact a2 u' u0' (by omega) w1
    · rw [cif_f (by omega)] at hdec
      refine aw_tree (I1_ok X _) [(true, 49), (false, 24), (true, 8)] [60] rfl ?_
      dsimp only [bnT]
      rw [hr1, hpi.1]
      repeat' (first | refine And.intro ?_ ?_ | (refine aImp_e0 ?_; intro _) | (refine aImp_n0 ?_; intro _) | (refine aImp_i ?_; intro _))
      all_goals (try (first | omega | exact bI_01 _ | exact bI_lo _ | exact bI_hi _ | exact bI_hi' _ | exact trivial | exact Or.inl rfl | exact Or.inr rfl | (exfalso; omega)))
      refine fin g _ _ ?_ hA (fun u' u0' u1' w1 => a2 u' u0' (by omega) w1)
      rw [hbh, hpi.2]
      omega
set_option maxRecDepth 100000 in
theorem c_fg_loop2 {X : AX} (d : Nat) (sb ss : Nat) (T : TyT) (G : TyG) (L : TyL) (O : TyO) (R : TyR) (P : TyP) (C : TyC) (B D : TyB) (S N : TyS) (bm : AC24) (b0 b1 : TyBn) (bt : List TyBn) (x : TyBn) (V : DP) (i : Int) {Q : AQ} (hV : kD V) (hP : rP P V) (hx : x.1 = 2 ∧ (0 ≤ x.2.1 ∧ x.2.1 ≤ 40) ∧ x.2.1 = dX V 2 ∧ 2 < dR V) (hi : 0 ≤ i ∧ i < dN V) (hh : FN)
    (hH : ∀ j, i ≤ j → j < dN V → hh j = VV V (dN V - j).toNat (fun _ => False) (2 + 1) 0)
    (hQ : ∀ f g : FN, tR V 2 (bnT x f g hh) i → tA V 2 (bnT x f g hh) i → Q none (CH sb ss T G L O R P C B D S N (MV bm (BH 73 (b0 :: b1 :: bnT x f g hh :: bt))))) :
    ∀ (m : Nat) (u : Int) (f g : FN) (v4 v5 : AV), u + m = x.2.1 + 1 → 0 ≤ u → tR V 2 (bnT x f g hh) (i + 1) → tA V 2 (bnT x f g hh) (i + 1) → (∀ u', 0 ≤ u' → u' < u → f (i * (x.2.1 + 1) + u') = VV V (dN V - i).toNat (fun _ => False) 2 u') → (∀ u', 0 ≤ u' → u' < u → u' + dW V i ≤ x.2.1 → g (i * (x.2.1 + 1) + u') = VV V (dN V - (i + 1)).toNat (dB V i) 2 (u' + dW V i)) → AW X (d + 6) 0 0 29 2 [rf 17, rf 81, iv i, iv u, v4, v5] [] (CH sb ss T G L O R P C B D S N (MV bm (BH 73 (b0 :: b1 :: bnT x f g hh :: bt)))) Q := by
  have hP' := hP
  obtain ⟨p1, p2, p3, p4, p5, p6, p7, p8, p9, p10⟩ := hP'
  have hn := hV.1
  have hw := hV.2.2.1 i hi.1 hi.2
  have ho := hV.2.1 i hi.1 hi.2
  have hpi := p2 i hi.1 hi.2
  rw [← hpi.2] at ho
  have hbh := hH i (by omega) hi.2
  intro m
  induction m with
  | zero =>
    intro u f g v4 v5 hm u0 hR hA a1 a2
    refine aw_tree (I1_ok X _) [(true, 49), (false, 24), (true, 12)] [2] rfl ?_
    try dsimp only [bnT]
    repeat' (first | refine And.intro ?_ ?_ | (refine aImp_e0 ?_; intro _) | (refine aImp_n0 ?_; intro _) | (refine aImp_i ?_; intro _))
    all_goals (try (first | omega | exact bI_01 _ | exact bI_lo _ | exact bI_hi _ | exact bI_hi' _ | exact trivial | exact Or.inl rfl | exact Or.inr rfl | (exfalso; omega)))
    refine hQ f g (fun j w' j0 j1 w0 w1 => ?_) (fun j p j0 j1 w0 w1 => ?_)
    · by_cases e : j = i
      · rw [e]; exact a1 w' w0 (by (try dsimp only at w1); omega)
      · exact hR j w' (by omega) j1 w0 w1
    · by_cases e : j = i
      · rw [e] at w1 ⊢; exact a2 p w0 (by (try dsimp only at w1); omega) w1
      · exact hA j p (by omega) j1 w0 w1
  | succ m ih =>
    intro u f g v4 v5 hm u0 hR hA a1 a2
    have hs := slot_b (n := 32) (w := x.2.1) (i := i) (u := u) (by omega) (by omega) (by omega)
    have hs1 := slot_b (n := 33) (w := x.2.1) (i := i + 1) (u := u) (by omega) (by omega) (by omega)
    have hr1 : f ((i + 1) * (x.2.1 + 1) + u) = VV V (dN V - (i + 1)).toNat (fun _ => False) 2 u := hR (i + 1) u (by omega) (by omega) u0 (by (try dsimp only); omega)
    have v1 := VV_r hV (dN V - (i + 1)).toNat (fun _ => False) 2 u (by omega)
    have v2 := VV_r hV (dN V - i).toNat (fun _ => False) (2 + 1) 0 (by omega)
    have v3 := VV_r hV (dN V - (i + 1)).toNat (dB V i) 2 (u + dW V i) (by omega)
    have v4' := VV_r hV (dN V - i).toNat (fun _ => False) 2 u (by omega)
    have hmv := hV.2.2.2.1 i 2 u
    have hdec := VV_decI hV (i := i) hi (fun _ => False) 2 u (by omega)
    rw [cif_f (fun k => k), cif_f (fun k => k), Int.add_zero] at hdec
    have hne : ∀ j w', 0 ≤ w' → w' ≤ x.2.1 → i + 1 ≤ j → j * (x.2.1 + 1) + w' ≠ i * (x.2.1 + 1) + u := fun j w' w0 w1 j0 e => by
      have := slot_inj ⟨w0, w1⟩ ⟨u0, by omega⟩ e
      omega
    have hne2 : ∀ w', w' < u → i * (x.2.1 + 1) + w' ≠ i * (x.2.1 + 1) + u := fun w' h e => by omega
    -- behind this place
    have fin : ∀ (g' : FN) (best : Int) (v5 : AV), best = VV V (dN V - i).toNat (fun _ => False) 2 u → tA V 2 (bnT x f g' hh) (i + 1) → (∀ u', 0 ≤ u' → u' < u + 1 → u' + dW V i ≤ x.2.1 → g' (i * (x.2.1 + 1) + u') = VV V (dN V - (i + 1)).toNat (dB V i) 2 (u' + dW V i)) → AW X (d + 6) 0 0 29 60 [rf 17, rf 81, iv i, iv u, iv best, v5] [] (CH sb ss T G L O R P C B D S N (MV bm (BH 73 (b0 :: b1 :: bnT x f g' hh :: bt)))) Q := by
      intro g' best v5 hbest hA' a2'
      refine aw_tree (I1_ok X _) [(true, 49), (false, 24), (true, 12)] [2] rfl ?_
      try dsimp only [bnT]
      repeat' (first | refine And.intro ?_ ?_ | (refine aImp_e0 ?_; intro _) | (refine aImp_n0 ?_; intro _) | (refine aImp_i ?_; intro _))
      all_goals (try (first | omega | exact bI_01 _ | exact bI_lo _ | exact bI_hi _ | exact bI_hi' _ | exact trivial | exact Or.inl rfl | exact Or.inr rfl | (exfalso; omega)))
      refine ih (u + 1) (aUp f (i * (x.2.1 + 1) + u) best) g' _ _ (by omega) (by omega) (fun j w' j0 j1 w0 w1 => ?_) hA' (fun u' u0' u1' => ?_) a2'
      · show aUp f (i * (x.2.1 + 1) + u) best (j * (x.2.1 + 1) + w') = _
        rw [aUp_n _ _ (hne j w' w0 w1 j0)]
        exact hR j w' j0 j1 w0 w1
      · by_cases e : u' = u
        · rw [e, aUp_s]; exact hbest
        · rw [aUp_n _ _ (hne2 u' (by omega))]
          exact a1 u' u0' (by omega)
    by_cases hfit : u + dW V i ≤ x.2.1
    · rw [cif_t (by omega)] at hdec
      refine aw_tree (I1_ok X _) [(true, 49), (false, 24), (true, 12)] [60] rfl ?_
      dsimp only [bnT]
      rw [hr1, hpi.1]
      repeat' (first | refine And.intro ?_ ?_ | (refine aImp_e0 ?_; intro _) | (refine aImp_n0 ?_; intro _) | (refine aImp_i ?_; intro _))
      all_goals (try (first | omega | exact bI_01 _ | exact bI_lo _ | exact bI_hi _ | exact bI_hi' _ | exact trivial | exact Or.inl rfl | exact Or.inr rfl | (exfalso; omega)))
      refine aw_cf0 (c_priceBeside2 _ sb ss T G L O R P C B D S N bm b0 b1 bt (bnT x f g hh) V (i + 1) i (u + dW V i) hV hP hx (by omega) (by omega) (by (try dsimp only); omega) hR hA (fun j j0 j1 => hH j (by omega) j1)) rfl ?_
      refine aw_tree (I1_ok X _) [(true, 49), (false, 24), (true, 12)] [60] rfl ?_
      try dsimp only [bnT]
      repeat' (first | refine And.intro ?_ ?_ | (refine aImp_e0 ?_; intro _) | (refine aImp_n0 ?_; intro _) | (refine aImp_i ?_; intro _))
      all_goals (try (first | omega | exact bI_01 _ | exact bI_lo _ | exact bI_hi _ | exact bI_hi' _ | exact trivial | exact Or.inl rfl | exact Or.inr rfl | (exfalso; omega)))
      refine aw_cf0 (c_sitPrice2 _ sb ss T G L O R P C B D S N bm b0 b1 bt (bnT x f (aUp g (i * (x.2.1 + 1) + u) (VV V (dN V - (i + 1)).toNat (dB V i) 2 (u + dW V i))) hh) V i u hV hP ⟨hx.1, hx.2.1⟩ hi ⟨u0, hfit⟩ (aUp_s _ _ _)) rfl ?_
      refine aw_tree (I1_ok X _) [(true, 49), (false, 24), (true, 12)] [60] rfl ?_
      try dsimp only [bnT]
      repeat' (first | refine And.intro ?_ ?_ | (refine aImp_e0 ?_; intro _) | (refine aImp_n0 ?_; intro _) | (refine aImp_i ?_; intro _))
      all_goals (try (first | omega | exact bI_01 _ | exact bI_lo _ | exact bI_hi _ | exact bI_hi' _ | exact trivial | exact Or.inl rfl | exact Or.inr rfl | (exfalso; omega)))
      refine fin (aUp g (i * (x.2.1 + 1) + u) (VV V (dN V - (i + 1)).toNat (dB V i) 2 (u + dW V i))) _ _ ?_ (fun j p j0 j1 w0 w1 => ?_) (fun u' u0' u1' w1 => ?_)
      · rw [hdec, hbh, hpi.2, Int.add_zero]
      · show aUp g (i * (x.2.1 + 1) + u) _ (j * (x.2.1 + 1) + p) = _
        rw [aUp_n _ _ (hne j p w0 (by have := hV.2.2.1 j (by omega) j1; (try dsimp only at w1); omega) j0)]
        exact hA j p j0 j1 w0 w1
      · by_cases e : u' = u
        · rw [e, aUp_s]
        · rw [aUp_n _ _ (hne2 u' (by omega))]
          exact a2 u' u0' (by omega) w1
    · rw [cif_f (by omega)] at hdec
      refine aw_tree (I1_ok X _) [(true, 49), (false, 24), (true, 12)] [60] rfl ?_
      dsimp only [bnT]
      rw [hr1, hpi.1]
      repeat' (first | refine And.intro ?_ ?_ | (refine aImp_e0 ?_; intro _) | (refine aImp_n0 ?_; intro _) | (refine aImp_i ?_; intro _))
      all_goals (try (first | omega | exact bI_01 _ | exact bI_lo _ | exact bI_hi _ | exact bI_hi' _ | exact trivial | exact Or.inl rfl | exact Or.inr rfl | (exfalso; omega)))
      refine fin g _ _ ?_ hA (fun u' u0' u1' w1 => a2 u' u0' (by omega) w1)
      rw [hbh, hpi.2]
      omega
set_option maxRecDepth 100000 in
theorem c_fg_loop3 {X : AX} (d : Nat) (sb ss : Nat) (T : TyT) (G : TyG) (L : TyL) (O : TyO) (R : TyR) (P : TyP) (C : TyC) (B D : TyB) (S N : TyS) (bm : AC24) (b0 b1 b2 : TyBn) (bt : List TyBn) (x : TyBn) (V : DP) (i : Int) {Q : AQ} (hV : kD V) (hP : rP P V) (hx : x.1 = 3 ∧ (0 ≤ x.2.1 ∧ x.2.1 ≤ 40) ∧ x.2.1 = dX V 3 ∧ 3 < dR V) (hi : 0 ≤ i ∧ i < dN V) (hh : FN)
    (hH : ∀ j, i ≤ j → j < dN V → hh j = VV V (dN V - j).toNat (fun _ => False) (3 + 1) 0)
    (hQ : ∀ f g : FN, tR V 3 (bnT x f g hh) i → tA V 3 (bnT x f g hh) i → Q none (CH sb ss T G L O R P C B D S N (MV bm (BH 73 (b0 :: b1 :: b2 :: bnT x f g hh :: bt))))) :
    ∀ (m : Nat) (u : Int) (f g : FN) (v4 v5 : AV), u + m = x.2.1 + 1 → 0 ≤ u → tR V 3 (bnT x f g hh) (i + 1) → tA V 3 (bnT x f g hh) (i + 1) → (∀ u', 0 ≤ u' → u' < u → f (i * (x.2.1 + 1) + u') = VV V (dN V - i).toNat (fun _ => False) 3 u') → (∀ u', 0 ≤ u' → u' < u → u' + dW V i ≤ x.2.1 → g (i * (x.2.1 + 1) + u') = VV V (dN V - (i + 1)).toNat (dB V i) 3 (u' + dW V i)) → AW X (d + 6) 0 0 29 2 [rf 17, rf 85, iv i, iv u, v4, v5] [] (CH sb ss T G L O R P C B D S N (MV bm (BH 73 (b0 :: b1 :: b2 :: bnT x f g hh :: bt)))) Q := by
  have hP' := hP
  obtain ⟨p1, p2, p3, p4, p5, p6, p7, p8, p9, p10⟩ := hP'
  have hn := hV.1
  have hw := hV.2.2.1 i hi.1 hi.2
  have ho := hV.2.1 i hi.1 hi.2
  have hpi := p2 i hi.1 hi.2
  rw [← hpi.2] at ho
  have hbh := hH i (by omega) hi.2
  intro m
  induction m with
  | zero =>
    intro u f g v4 v5 hm u0 hR hA a1 a2
    refine aw_tree (I1_ok X _) [(true, 49), (false, 24), (true, 16)] [2] rfl ?_
    try dsimp only [bnT]
    repeat' (first | refine And.intro ?_ ?_ | (refine aImp_e0 ?_; intro _) | (refine aImp_n0 ?_; intro _) | (refine aImp_i ?_; intro _))
    all_goals (try (first | omega | exact bI_01 _ | exact bI_lo _ | exact bI_hi _ | exact bI_hi' _ | exact trivial | exact Or.inl rfl | exact Or.inr rfl | (exfalso; omega)))
    refine hQ f g (fun j w' j0 j1 w0 w1 => ?_) (fun j p j0 j1 w0 w1 => ?_)
    · by_cases e : j = i
      · rw [e]; exact a1 w' w0 (by (try dsimp only at w1); omega)
      · exact hR j w' (by omega) j1 w0 w1
    · by_cases e : j = i
      · rw [e] at w1 ⊢; exact a2 p w0 (by (try dsimp only at w1); omega) w1
      · exact hA j p (by omega) j1 w0 w1
  | succ m ih =>
    intro u f g v4 v5 hm u0 hR hA a1 a2
    have hs := slot_b (n := 32) (w := x.2.1) (i := i) (u := u) (by omega) (by omega) (by omega)
    have hs1 := slot_b (n := 33) (w := x.2.1) (i := i + 1) (u := u) (by omega) (by omega) (by omega)
    have hr1 : f ((i + 1) * (x.2.1 + 1) + u) = VV V (dN V - (i + 1)).toNat (fun _ => False) 3 u := hR (i + 1) u (by omega) (by omega) u0 (by (try dsimp only); omega)
    have v1 := VV_r hV (dN V - (i + 1)).toNat (fun _ => False) 3 u (by omega)
    have v2 := VV_r hV (dN V - i).toNat (fun _ => False) (3 + 1) 0 (by omega)
    have v3 := VV_r hV (dN V - (i + 1)).toNat (dB V i) 3 (u + dW V i) (by omega)
    have v4' := VV_r hV (dN V - i).toNat (fun _ => False) 3 u (by omega)
    have hmv := hV.2.2.2.1 i 3 u
    have hdec := VV_decI hV (i := i) hi (fun _ => False) 3 u (by omega)
    rw [cif_f (fun k => k), cif_f (fun k => k), Int.add_zero] at hdec
    have hne : ∀ j w', 0 ≤ w' → w' ≤ x.2.1 → i + 1 ≤ j → j * (x.2.1 + 1) + w' ≠ i * (x.2.1 + 1) + u := fun j w' w0 w1 j0 e => by
      have := slot_inj ⟨w0, w1⟩ ⟨u0, by omega⟩ e
      omega
    have hne2 : ∀ w', w' < u → i * (x.2.1 + 1) + w' ≠ i * (x.2.1 + 1) + u := fun w' h e => by omega
    -- behind this place
    have fin : ∀ (g' : FN) (best : Int) (v5 : AV), best = VV V (dN V - i).toNat (fun _ => False) 3 u → tA V 3 (bnT x f g' hh) (i + 1) → (∀ u', 0 ≤ u' → u' < u + 1 → u' + dW V i ≤ x.2.1 → g' (i * (x.2.1 + 1) + u') = VV V (dN V - (i + 1)).toNat (dB V i) 3 (u' + dW V i)) → AW X (d + 6) 0 0 29 60 [rf 17, rf 85, iv i, iv u, iv best, v5] [] (CH sb ss T G L O R P C B D S N (MV bm (BH 73 (b0 :: b1 :: b2 :: bnT x f g' hh :: bt)))) Q := by
      intro g' best v5 hbest hA' a2'
      refine aw_tree (I1_ok X _) [(true, 49), (false, 24), (true, 16)] [2] rfl ?_
      try dsimp only [bnT]
      repeat' (first | refine And.intro ?_ ?_ | (refine aImp_e0 ?_; intro _) | (refine aImp_n0 ?_; intro _) | (refine aImp_i ?_; intro _))
      all_goals (try (first | omega | exact bI_01 _ | exact bI_lo _ | exact bI_hi _ | exact bI_hi' _ | exact trivial | exact Or.inl rfl | exact Or.inr rfl | (exfalso; omega)))
      refine ih (u + 1) (aUp f (i * (x.2.1 + 1) + u) best) g' _ _ (by omega) (by omega) (fun j w' j0 j1 w0 w1 => ?_) hA' (fun u' u0' u1' => ?_) a2'
      · show aUp f (i * (x.2.1 + 1) + u) best (j * (x.2.1 + 1) + w') = _
        rw [aUp_n _ _ (hne j w' w0 w1 j0)]
        exact hR j w' j0 j1 w0 w1
      · by_cases e : u' = u
        · rw [e, aUp_s]; exact hbest
        · rw [aUp_n _ _ (hne2 u' (by omega))]
          exact a1 u' u0' (by omega)
    by_cases hfit : u + dW V i ≤ x.2.1
    · rw [cif_t (by omega)] at hdec
      refine aw_tree (I1_ok X _) [(true, 49), (false, 24), (true, 16)] [60] rfl ?_
      dsimp only [bnT]
      rw [hr1, hpi.1]
      repeat' (first | refine And.intro ?_ ?_ | (refine aImp_e0 ?_; intro _) | (refine aImp_n0 ?_; intro _) | (refine aImp_i ?_; intro _))
      all_goals (try (first | omega | exact bI_01 _ | exact bI_lo _ | exact bI_hi _ | exact bI_hi' _ | exact trivial | exact Or.inl rfl | exact Or.inr rfl | (exfalso; omega)))
      refine aw_cf0 (c_priceBeside3 _ sb ss T G L O R P C B D S N bm b0 b1 b2 bt (bnT x f g hh) V (i + 1) i (u + dW V i) hV hP hx (by omega) (by omega) (by (try dsimp only); omega) hR hA (fun j j0 j1 => hH j (by omega) j1)) rfl ?_
      refine aw_tree (I1_ok X _) [(true, 49), (false, 24), (true, 16)] [60] rfl ?_
      try dsimp only [bnT]
      repeat' (first | refine And.intro ?_ ?_ | (refine aImp_e0 ?_; intro _) | (refine aImp_n0 ?_; intro _) | (refine aImp_i ?_; intro _))
      all_goals (try (first | omega | exact bI_01 _ | exact bI_lo _ | exact bI_hi _ | exact bI_hi' _ | exact trivial | exact Or.inl rfl | exact Or.inr rfl | (exfalso; omega)))
      refine aw_cf0 (c_sitPrice3 _ sb ss T G L O R P C B D S N bm b0 b1 b2 bt (bnT x f (aUp g (i * (x.2.1 + 1) + u) (VV V (dN V - (i + 1)).toNat (dB V i) 3 (u + dW V i))) hh) V i u hV hP ⟨hx.1, hx.2.1⟩ hi ⟨u0, hfit⟩ (aUp_s _ _ _)) rfl ?_
      refine aw_tree (I1_ok X _) [(true, 49), (false, 24), (true, 16)] [60] rfl ?_
      try dsimp only [bnT]
      repeat' (first | refine And.intro ?_ ?_ | (refine aImp_e0 ?_; intro _) | (refine aImp_n0 ?_; intro _) | (refine aImp_i ?_; intro _))
      all_goals (try (first | omega | exact bI_01 _ | exact bI_lo _ | exact bI_hi _ | exact bI_hi' _ | exact trivial | exact Or.inl rfl | exact Or.inr rfl | (exfalso; omega)))
      refine fin (aUp g (i * (x.2.1 + 1) + u) (VV V (dN V - (i + 1)).toNat (dB V i) 3 (u + dW V i))) _ _ ?_ (fun j p j0 j1 w0 w1 => ?_) (fun u' u0' u1' w1 => ?_)
      · rw [hdec, hbh, hpi.2, Int.add_zero]
      · show aUp g (i * (x.2.1 + 1) + u) _ (j * (x.2.1 + 1) + p) = _
        rw [aUp_n _ _ (hne j p w0 (by have := hV.2.2.1 j (by omega) j1; (try dsimp only at w1); omega) j0)]
        exact hA j p j0 j1 w0 w1
      · by_cases e : u' = u
        · rw [e, aUp_s]
        · rw [aUp_n _ _ (hne2 u' (by omega))]
          exact a2 u' u0' (by omega) w1
    · rw [cif_f (by omega)] at hdec
      refine aw_tree (I1_ok X _) [(true, 49), (false, 24), (true, 16)] [60] rfl ?_
      dsimp only [bnT]
      rw [hr1, hpi.1]
      repeat' (first | refine And.intro ?_ ?_ | (refine aImp_e0 ?_; intro _) | (refine aImp_n0 ?_; intro _) | (refine aImp_i ?_; intro _))
      all_goals (try (first | omega | exact bI_01 _ | exact bI_lo _ | exact bI_hi _ | exact bI_hi' _ | exact trivial | exact Or.inl rfl | exact Or.inr rfl | (exfalso; omega)))
      refine fin g _ _ ?_ hA (fun u' u0' u1' w1 => a2 u' u0' (by omega) w1)
      rw [hbh, hpi.2]
      omega
set_option maxRecDepth 100000 in
theorem c_fg_loop4 {X : AX} (d : Nat) (sb ss : Nat) (T : TyT) (G : TyG) (L : TyL) (O : TyO) (R : TyR) (P : TyP) (C : TyC) (B D : TyB) (S N : TyS) (bm : AC24) (b0 b1 b2 b3 : TyBn) (bt : List TyBn) (x : TyBn) (V : DP) (i : Int) {Q : AQ} (hV : kD V) (hP : rP P V) (hx : x.1 = 4 ∧ (0 ≤ x.2.1 ∧ x.2.1 ≤ 40) ∧ x.2.1 = dX V 4 ∧ 4 < dR V) (hi : 0 ≤ i ∧ i < dN V) (hh : FN)
    (hH : ∀ j, i ≤ j → j < dN V → hh j = VV V (dN V - j).toNat (fun _ => False) (4 + 1) 0)
    (hQ : ∀ f g : FN, tR V 4 (bnT x f g hh) i → tA V 4 (bnT x f g hh) i → Q none (CH sb ss T G L O R P C B D S N (MV bm (BH 73 (b0 :: b1 :: b2 :: b3 :: bnT x f g hh :: bt))))) :
    ∀ (m : Nat) (u : Int) (f g : FN) (v4 v5 : AV), u + m = x.2.1 + 1 → 0 ≤ u → tR V 4 (bnT x f g hh) (i + 1) → tA V 4 (bnT x f g hh) (i + 1) → (∀ u', 0 ≤ u' → u' < u → f (i * (x.2.1 + 1) + u') = VV V (dN V - i).toNat (fun _ => False) 4 u') → (∀ u', 0 ≤ u' → u' < u → u' + dW V i ≤ x.2.1 → g (i * (x.2.1 + 1) + u') = VV V (dN V - (i + 1)).toNat (dB V i) 4 (u' + dW V i)) → AW X (d + 6) 0 0 29 2 [rf 17, rf 89, iv i, iv u, v4, v5] [] (CH sb ss T G L O R P C B D S N (MV bm (BH 73 (b0 :: b1 :: b2 :: b3 :: bnT x f g hh :: bt)))) Q := by
  have hP' := hP
  obtain ⟨p1, p2, p3, p4, p5, p6, p7, p8, p9, p10⟩ := hP'
  have hn := hV.1
  have hw := hV.2.2.1 i hi.1 hi.2
  have ho := hV.2.1 i hi.1 hi.2
  have hpi := p2 i hi.1 hi.2
  rw [← hpi.2] at ho
  have hbh := hH i (by omega) hi.2
  intro m
  induction m with
  | zero =>
    intro u f g v4 v5 hm u0 hR hA a1 a2
    refine aw_tree (I1_ok X _) [(true, 49), (false, 24), (true, 20)] [2] rfl ?_
    try dsimp only [bnT]
    repeat' (first | refine And.intro ?_ ?_ | (refine aImp_e0 ?_; intro _) | (refine aImp_n0 ?_; intro _) | (refine aImp_i ?_; intro _))
    all_goals (try (first | omega | exact bI_01 _ | exact bI_lo _ | exact bI_hi _ | exact bI_hi' _ | exact trivial | exact Or.inl rfl | exact Or.inr rfl | (exfalso; omega)))
    refine hQ f g (fun j w' j0 j1 w0 w1 => ?_) (fun j p j0 j1 w0 w1 => ?_)
    · by_cases e : j = i
      · rw [e]; exact a1 w' w0 (by (try dsimp only at w1); omega)
      · exact hR j w' (by omega) j1 w0 w1
    · by_cases e : j = i
      · rw [e] at w1 ⊢; exact a2 p w0 (by (try dsimp only at w1); omega) w1
      · exact hA j p (by omega) j1 w0 w1
  | succ m ih =>
    intro u f g v4 v5 hm u0 hR hA a1 a2
    have hs := slot_b (n := 32) (w := x.2.1) (i := i) (u := u) (by omega) (by omega) (by omega)
    have hs1 := slot_b (n := 33) (w := x.2.1) (i := i + 1) (u := u) (by omega) (by omega) (by omega)
    have hr1 : f ((i + 1) * (x.2.1 + 1) + u) = VV V (dN V - (i + 1)).toNat (fun _ => False) 4 u := hR (i + 1) u (by omega) (by omega) u0 (by (try dsimp only); omega)
    have v1 := VV_r hV (dN V - (i + 1)).toNat (fun _ => False) 4 u (by omega)
    have v2 := VV_r hV (dN V - i).toNat (fun _ => False) (4 + 1) 0 (by omega)
    have v3 := VV_r hV (dN V - (i + 1)).toNat (dB V i) 4 (u + dW V i) (by omega)
    have v4' := VV_r hV (dN V - i).toNat (fun _ => False) 4 u (by omega)
    have hmv := hV.2.2.2.1 i 4 u
    have hdec := VV_decI hV (i := i) hi (fun _ => False) 4 u (by omega)
    rw [cif_f (fun k => k), cif_f (fun k => k), Int.add_zero] at hdec
    have hne : ∀ j w', 0 ≤ w' → w' ≤ x.2.1 → i + 1 ≤ j → j * (x.2.1 + 1) + w' ≠ i * (x.2.1 + 1) + u := fun j w' w0 w1 j0 e => by
      have := slot_inj ⟨w0, w1⟩ ⟨u0, by omega⟩ e
      omega
    have hne2 : ∀ w', w' < u → i * (x.2.1 + 1) + w' ≠ i * (x.2.1 + 1) + u := fun w' h e => by omega
    -- behind this place
    have fin : ∀ (g' : FN) (best : Int) (v5 : AV), best = VV V (dN V - i).toNat (fun _ => False) 4 u → tA V 4 (bnT x f g' hh) (i + 1) → (∀ u', 0 ≤ u' → u' < u + 1 → u' + dW V i ≤ x.2.1 → g' (i * (x.2.1 + 1) + u') = VV V (dN V - (i + 1)).toNat (dB V i) 4 (u' + dW V i)) → AW X (d + 6) 0 0 29 60 [rf 17, rf 89, iv i, iv u, iv best, v5] [] (CH sb ss T G L O R P C B D S N (MV bm (BH 73 (b0 :: b1 :: b2 :: b3 :: bnT x f g' hh :: bt)))) Q := by
      intro g' best v5 hbest hA' a2'
      refine aw_tree (I1_ok X _) [(true, 49), (false, 24), (true, 20)] [2] rfl ?_
      try dsimp only [bnT]
      repeat' (first | refine And.intro ?_ ?_ | (refine aImp_e0 ?_; intro _) | (refine aImp_n0 ?_; intro _) | (refine aImp_i ?_; intro _))
      all_goals (try (first | omega | exact bI_01 _ | exact bI_lo _ | exact bI_hi _ | exact bI_hi' _ | exact trivial | exact Or.inl rfl | exact Or.inr rfl | (exfalso; omega)))
      refine ih (u + 1) (aUp f (i * (x.2.1 + 1) + u) best) g' _ _ (by omega) (by omega) (fun j w' j0 j1 w0 w1 => ?_) hA' (fun u' u0' u1' => ?_) a2'
      · show aUp f (i * (x.2.1 + 1) + u) best (j * (x.2.1 + 1) + w') = _
        rw [aUp_n _ _ (hne j w' w0 w1 j0)]
        exact hR j w' j0 j1 w0 w1
      · by_cases e : u' = u
        · rw [e, aUp_s]; exact hbest
        · rw [aUp_n _ _ (hne2 u' (by omega))]
          exact a1 u' u0' (by omega)
    by_cases hfit : u + dW V i ≤ x.2.1
    · rw [cif_t (by omega)] at hdec
      refine aw_tree (I1_ok X _) [(true, 49), (false, 24), (true, 20)] [60] rfl ?_
      dsimp only [bnT]
      rw [hr1, hpi.1]
      repeat' (first | refine And.intro ?_ ?_ | (refine aImp_e0 ?_; intro _) | (refine aImp_n0 ?_; intro _) | (refine aImp_i ?_; intro _))
      all_goals (try (first | omega | exact bI_01 _ | exact bI_lo _ | exact bI_hi _ | exact bI_hi' _ | exact trivial | exact Or.inl rfl | exact Or.inr rfl | (exfalso; omega)))
      refine aw_cf0 (c_priceBeside4 _ sb ss T G L O R P C B D S N bm b0 b1 b2 b3 bt (bnT x f g hh) V (i + 1) i (u + dW V i) hV hP hx (by omega) (by omega) (by (try dsimp only); omega) hR hA (fun j j0 j1 => hH j (by omega) j1)) rfl ?_
      refine aw_tree (I1_ok X _) [(true, 49), (false, 24), (true, 20)] [60] rfl ?_
      try dsimp only [bnT]
      repeat' (first | refine And.intro ?_ ?_ | (refine aImp_e0 ?_; intro _) | (refine aImp_n0 ?_; intro _) | (refine aImp_i ?_; intro _))
      all_goals (try (first | omega | exact bI_01 _ | exact bI_lo _ | exact bI_hi _ | exact bI_hi' _ | exact trivial | exact Or.inl rfl | exact Or.inr rfl | (exfalso; omega)))
      refine aw_cf0 (c_sitPrice4 _ sb ss T G L O R P C B D S N bm b0 b1 b2 b3 bt (bnT x f (aUp g (i * (x.2.1 + 1) + u) (VV V (dN V - (i + 1)).toNat (dB V i) 4 (u + dW V i))) hh) V i u hV hP ⟨hx.1, hx.2.1⟩ hi ⟨u0, hfit⟩ (aUp_s _ _ _)) rfl ?_
      refine aw_tree (I1_ok X _) [(true, 49), (false, 24), (true, 20)] [60] rfl ?_
      try dsimp only [bnT]
      repeat' (first | refine And.intro ?_ ?_ | (refine aImp_e0 ?_; intro _) | (refine aImp_n0 ?_; intro _) | (refine aImp_i ?_; intro _))
      all_goals (try (first | omega | exact bI_01 _ | exact bI_lo _ | exact bI_hi _ | exact bI_hi' _ | exact trivial | exact Or.inl rfl | exact Or.inr rfl | (exfalso; omega)))
      refine fin (aUp g (i * (x.2.1 + 1) + u) (VV V (dN V - (i + 1)).toNat (dB V i) 4 (u + dW V i))) _ _ ?_ (fun j p j0 j1 w0 w1 => ?_) (fun u' u0' u1' w1 => ?_)
      · rw [hdec, hbh, hpi.2, Int.add_zero]
      · show aUp g (i * (x.2.1 + 1) + u) _ (j * (x.2.1 + 1) + p) = _
        rw [aUp_n _ _ (hne j p w0 (by have := hV.2.2.1 j (by omega) j1; (try dsimp only at w1); omega) j0)]
        exact hA j p j0 j1 w0 w1
      · by_cases e : u' = u
        · rw [e, aUp_s]
        · rw [aUp_n _ _ (hne2 u' (by omega))]
          exact a2 u' u0' (by omega) w1
    · rw [cif_f (by omega)] at hdec
      refine aw_tree (I1_ok X _) [(true, 49), (false, 24), (true, 20)] [60] rfl ?_
      dsimp only [bnT]
      rw [hr1, hpi.1]
      repeat' (first | refine And.intro ?_ ?_ | (refine aImp_e0 ?_; intro _) | (refine aImp_n0 ?_; intro _) | (refine aImp_i ?_; intro _))
      all_goals (try (first | omega | exact bI_01 _ | exact bI_lo _ | exact bI_hi _ | exact bI_hi' _ | exact trivial | exact Or.inl rfl | exact Or.inr rfl | (exfalso; omega)))
      refine fin g _ _ ?_ hA (fun u' u0' u1' w1 => a2 u' u0' (by omega) w1)
      rw [hbh, hpi.2]
      omega
set_option maxRecDepth 100000 in
theorem c_fg_loop5 {X : AX} (d : Nat) (sb ss : Nat) (T : TyT) (G : TyG) (L : TyL) (O : TyO) (R : TyR) (P : TyP) (C : TyC) (B D : TyB) (S N : TyS) (bm : AC24) (b0 b1 b2 b3 b4 : TyBn) (bt : List TyBn) (x : TyBn) (V : DP) (i : Int) {Q : AQ} (hV : kD V) (hP : rP P V) (hx : x.1 = 5 ∧ (0 ≤ x.2.1 ∧ x.2.1 ≤ 40) ∧ x.2.1 = dX V 5 ∧ 5 < dR V) (hi : 0 ≤ i ∧ i < dN V) (hh : FN)
    (hH : ∀ j, i ≤ j → j < dN V → hh j = VV V (dN V - j).toNat (fun _ => False) (5 + 1) 0)
    (hQ : ∀ f g : FN, tR V 5 (bnT x f g hh) i → tA V 5 (bnT x f g hh) i → Q none (CH sb ss T G L O R P C B D S N (MV bm (BH 73 (b0 :: b1 :: b2 :: b3 :: b4 :: bnT x f g hh :: bt))))) :
    ∀ (m : Nat) (u : Int) (f g : FN) (v4 v5 : AV), u + m = x.2.1 + 1 → 0 ≤ u → tR V 5 (bnT x f g hh) (i + 1) → tA V 5 (bnT x f g hh) (i + 1) → (∀ u', 0 ≤ u' → u' < u → f (i * (x.2.1 + 1) + u') = VV V (dN V - i).toNat (fun _ => False) 5 u') → (∀ u', 0 ≤ u' → u' < u → u' + dW V i ≤ x.2.1 → g (i * (x.2.1 + 1) + u') = VV V (dN V - (i + 1)).toNat (dB V i) 5 (u' + dW V i)) → AW X (d + 6) 0 0 29 2 [rf 17, rf 93, iv i, iv u, v4, v5] [] (CH sb ss T G L O R P C B D S N (MV bm (BH 73 (b0 :: b1 :: b2 :: b3 :: b4 :: bnT x f g hh :: bt)))) Q := by
  have hP' := hP
  obtain ⟨p1, p2, p3, p4, p5, p6, p7, p8, p9, p10⟩ := hP'
  have hn := hV.1
  have hw := hV.2.2.1 i hi.1 hi.2
  have ho := hV.2.1 i hi.1 hi.2
  have hpi := p2 i hi.1 hi.2
  rw [← hpi.2] at ho
  have hbh := hH i (by omega) hi.2
  intro m
  induction m with
  | zero =>
    intro u f g v4 v5 hm u0 hR hA a1 a2
    refine aw_tree (I1_ok X _) [(true, 49), (false, 24), (true, 24)] [2] rfl ?_
    try dsimp only [bnT]
    repeat' (first | refine And.intro ?_ ?_ | (refine aImp_e0 ?_; intro _) | (refine aImp_n0 ?_; intro _) | (refine aImp_i ?_; intro _))
    all_goals (try (first | omega | exact bI_01 _ | exact bI_lo _ | exact bI_hi _ | exact bI_hi' _ | exact trivial | exact Or.inl rfl | exact Or.inr rfl | (exfalso; omega)))
    refine hQ f g (fun j w' j0 j1 w0 w1 => ?_) (fun j p j0 j1 w0 w1 => ?_)
    · by_cases e : j = i
      · rw [e]; exact a1 w' w0 (by (try dsimp only at w1); omega)
      · exact hR j w' (by omega) j1 w0 w1
    · by_cases e : j = i
      · rw [e] at w1 ⊢; exact a2 p w0 (by (try dsimp only at w1); omega) w1
      · exact hA j p (by omega) j1 w0 w1
  | succ m ih =>
    intro u f g v4 v5 hm u0 hR hA a1 a2
    have hs := slot_b (n := 32) (w := x.2.1) (i := i) (u := u) (by omega) (by omega) (by omega)
    have hs1 := slot_b (n := 33) (w := x.2.1) (i := i + 1) (u := u) (by omega) (by omega) (by omega)
    have hr1 : f ((i + 1) * (x.2.1 + 1) + u) = VV V (dN V - (i + 1)).toNat (fun _ => False) 5 u := hR (i + 1) u (by omega) (by omega) u0 (by (try dsimp only); omega)
    have v1 := VV_r hV (dN V - (i + 1)).toNat (fun _ => False) 5 u (by omega)
    have v2 := VV_r hV (dN V - i).toNat (fun _ => False) (5 + 1) 0 (by omega)
    have v3 := VV_r hV (dN V - (i + 1)).toNat (dB V i) 5 (u + dW V i) (by omega)
    have v4' := VV_r hV (dN V - i).toNat (fun _ => False) 5 u (by omega)
    have hmv := hV.2.2.2.1 i 5 u
    have hdec := VV_decI hV (i := i) hi (fun _ => False) 5 u (by omega)
    rw [cif_f (fun k => k), cif_f (fun k => k), Int.add_zero] at hdec
    have hne : ∀ j w', 0 ≤ w' → w' ≤ x.2.1 → i + 1 ≤ j → j * (x.2.1 + 1) + w' ≠ i * (x.2.1 + 1) + u := fun j w' w0 w1 j0 e => by
      have := slot_inj ⟨w0, w1⟩ ⟨u0, by omega⟩ e
      omega
    have hne2 : ∀ w', w' < u → i * (x.2.1 + 1) + w' ≠ i * (x.2.1 + 1) + u := fun w' h e => by omega
    -- behind this place
    have fin : ∀ (g' : FN) (best : Int) (v5 : AV), best = VV V (dN V - i).toNat (fun _ => False) 5 u → tA V 5 (bnT x f g' hh) (i + 1) → (∀ u', 0 ≤ u' → u' < u + 1 → u' + dW V i ≤ x.2.1 → g' (i * (x.2.1 + 1) + u') = VV V (dN V - (i + 1)).toNat (dB V i) 5 (u' + dW V i)) → AW X (d + 6) 0 0 29 60 [rf 17, rf 93, iv i, iv u, iv best, v5] [] (CH sb ss T G L O R P C B D S N (MV bm (BH 73 (b0 :: b1 :: b2 :: b3 :: b4 :: bnT x f g' hh :: bt)))) Q := by
      intro g' best v5 hbest hA' a2'
      refine aw_tree (I1_ok X _) [(true, 49), (false, 24), (true, 24)] [2] rfl ?_
      try dsimp only [bnT]
      repeat' (first | refine And.intro ?_ ?_ | (refine aImp_e0 ?_; intro _) | (refine aImp_n0 ?_; intro _) | (refine aImp_i ?_; intro _))
      all_goals (try (first | omega | exact bI_01 _ | exact bI_lo _ | exact bI_hi _ | exact bI_hi' _ | exact trivial | exact Or.inl rfl | exact Or.inr rfl | (exfalso; omega)))
      refine ih (u + 1) (aUp f (i * (x.2.1 + 1) + u) best) g' _ _ (by omega) (by omega) (fun j w' j0 j1 w0 w1 => ?_) hA' (fun u' u0' u1' => ?_) a2'
      · show aUp f (i * (x.2.1 + 1) + u) best (j * (x.2.1 + 1) + w') = _
        rw [aUp_n _ _ (hne j w' w0 w1 j0)]
        exact hR j w' j0 j1 w0 w1
      · by_cases e : u' = u
        · rw [e, aUp_s]; exact hbest
        · rw [aUp_n _ _ (hne2 u' (by omega))]
          exact a1 u' u0' (by omega)
    by_cases hfit : u + dW V i ≤ x.2.1
    · rw [cif_t (by omega)] at hdec
      refine aw_tree (I1_ok X _) [(true, 49), (false, 24), (true, 24)] [60] rfl ?_
      dsimp only [bnT]
      rw [hr1, hpi.1]
      repeat' (first | refine And.intro ?_ ?_ | (refine aImp_e0 ?_; intro _) | (refine aImp_n0 ?_; intro _) | (refine aImp_i ?_; intro _))
      all_goals (try (first | omega | exact bI_01 _ | exact bI_lo _ | exact bI_hi _ | exact bI_hi' _ | exact trivial | exact Or.inl rfl | exact Or.inr rfl | (exfalso; omega)))
      refine aw_cf0 (c_priceBeside5 _ sb ss T G L O R P C B D S N bm b0 b1 b2 b3 b4 bt (bnT x f g hh) V (i + 1) i (u + dW V i) hV hP hx (by omega) (by omega) (by (try dsimp only); omega) hR hA (fun j j0 j1 => hH j (by omega) j1)) rfl ?_
      refine aw_tree (I1_ok X _) [(true, 49), (false, 24), (true, 24)] [60] rfl ?_
      try dsimp only [bnT]
      repeat' (first | refine And.intro ?_ ?_ | (refine aImp_e0 ?_; intro _) | (refine aImp_n0 ?_; intro _) | (refine aImp_i ?_; intro _))
      all_goals (try (first | omega | exact bI_01 _ | exact bI_lo _ | exact bI_hi _ | exact bI_hi' _ | exact trivial | exact Or.inl rfl | exact Or.inr rfl | (exfalso; omega)))
      refine aw_cf0 (c_sitPrice5 _ sb ss T G L O R P C B D S N bm b0 b1 b2 b3 b4 bt (bnT x f (aUp g (i * (x.2.1 + 1) + u) (VV V (dN V - (i + 1)).toNat (dB V i) 5 (u + dW V i))) hh) V i u hV hP ⟨hx.1, hx.2.1⟩ hi ⟨u0, hfit⟩ (aUp_s _ _ _)) rfl ?_
      refine aw_tree (I1_ok X _) [(true, 49), (false, 24), (true, 24)] [60] rfl ?_
      try dsimp only [bnT]
      repeat' (first | refine And.intro ?_ ?_ | (refine aImp_e0 ?_; intro _) | (refine aImp_n0 ?_; intro _) | (refine aImp_i ?_; intro _))
      all_goals (try (first | omega | exact bI_01 _ | exact bI_lo _ | exact bI_hi _ | exact bI_hi' _ | exact trivial | exact Or.inl rfl | exact Or.inr rfl | (exfalso; omega)))
      refine fin (aUp g (i * (x.2.1 + 1) + u) (VV V (dN V - (i + 1)).toNat (dB V i) 5 (u + dW V i))) _ _ ?_ (fun j p j0 j1 w0 w1 => ?_) (fun u' u0' u1' w1 => ?_)
      · rw [hdec, hbh, hpi.2, Int.add_zero]
      · show aUp g (i * (x.2.1 + 1) + u) _ (j * (x.2.1 + 1) + p) = _
        rw [aUp_n _ _ (hne j p w0 (by have := hV.2.2.1 j (by omega) j1; (try dsimp only at w1); omega) j0)]
        exact hA j p j0 j1 w0 w1
      · by_cases e : u' = u
        · rw [e, aUp_s]
        · rw [aUp_n _ _ (hne2 u' (by omega))]
          exact a2 u' u0' (by omega) w1
    · rw [cif_f (by omega)] at hdec
      refine aw_tree (I1_ok X _) [(true, 49), (false, 24), (true, 24)] [60] rfl ?_
      dsimp only [bnT]
      rw [hr1, hpi.1]
      repeat' (first | refine And.intro ?_ ?_ | (refine aImp_e0 ?_; intro _) | (refine aImp_n0 ?_; intro _) | (refine aImp_i ?_; intro _))
      all_goals (try (first | omega | exact bI_01 _ | exact bI_lo _ | exact bI_hi _ | exact bI_hi' _ | exact trivial | exact Or.inl rfl | exact Or.inr rfl | (exfalso; omega)))
      refine fin g _ _ ?_ hA (fun u' u0' u1' w1 => a2 u' u0' (by omega) w1)
      rw [hbh, hpi.2]
      omega

theorem ov_row {V : DP} (h : kD V) {i l row p r z : Int} (hi : 0 ≤ i ∧ i < dN V) (hr : row ≤ r ∧ r < dR V) (hz : z = begV V (dB V l i) row (cif (l < 0) 0 p) r) : (z + dW V i ≤ dX V r ∧ VV V (dN V - (i + 1)).toNat (dB V i) r (z + dW V i) + dM V i r z = pr4 V i l row p - cif (r = row ∧ dB V l i) (64 * dE V) 0) ↔ ovV V i l row p r = pr4 V i l row p := by
  have h6 := h.2.2.2.2.1
  have hv := VV_r h (dN V - i).toNat (dB V l) row (cif (l < 0) 0 p) (by omega)
  have hn := h.1
  have hpr : pr4 V i l row p ≤ 64001 * (dN V - i).toNat := hv.2
  have eo : ovV V i l row p r = cif (r < row ∨ dR V ≤ r ∨ dX V r < z + dW V i) 1000000000 (cif (r = row ∧ dB V l i) (64 * dE V) 0 + dM V i r z + VV V (dN V - (i + 1)).toNat (dB V i) r (z + dW V i)) := by
    unfold ovV optV
    rw [cif_f (show ¬ r = 6 from by omega), ← hz]
  rw [eo]
  by_cases hf : z + dW V i ≤ dX V r
  · rw [cif_f (show ¬ (r < row ∨ dR V ≤ r ∨ dX V r < z + dW V i) from by omega)]
    constructor
    · intro k; omega
    · intro k; exact ⟨hf, by omega⟩
  · rw [cif_t (show r < row ∨ dR V ≤ r ∨ dX V r < z + dW V i from by omega)]
    constructor
    · intro k; exact absurd k.1 hf
    · intro k; omega
theorem ov_far {V : DP} (h : kD V) {i l row p r : Int} (hi : 0 ≤ i ∧ i < dN V) (hr : r < row ∨ dR V ≤ r) (h6 : ¬ r = 6) : ¬ ovV V i l row p r = pr4 V i l row p := by
  have hv := VV_r h (dN V - i).toNat (dB V l) row (cif (l < 0) 0 p) (by omega)
  have hn := h.1
  have hpr : pr4 V i l row p ≤ 64001 * (dN V - i).toNat := hv.2
  unfold ovV optV
  rw [cif_f h6, cif_t (by
    rcases hr with q | q
    · exact Or.inl q
    · exact Or.inr (Or.inl q))]
  omega
theorem cho_is {V : DP} (h : kD V) {i l row p r : Int} (hi : 0 ≤ i ∧ i < dN V) (h0 : 0 ≤ r) (h1 : ovV V i l row p r = pr4 V i l row p) (h2 : ∀ s, 0 ≤ s → s < r → ¬ ovV V i l row p s = pr4 V i l row p) : choD V i l row p = r := by
  obtain ⟨a1, a2, a3⟩ := cho_ok h (l := l) (r := row) (p := p) hi
  rcases Int.lt_or_le (choD V i l row p) r with q | q
  · exact absurd a2 (h2 _ a1.1 q)
  · rcases Int.lt_or_le r (choD V i l row p) with q2 | q2
    · exact absurd h1 (a3 r h0 q2)
    · omega
set_option maxRecDepth 100000 in
theorem c_choose_loop {X : AX} (d : Nat) (sb ss : Nat) (T : TyT) (G : TyG) (L : TyL) (O : TyO) (R : TyR) (P : TyP) (C : TyC) (B D : TyB) (S N : TyS) (bm : AC24) (β : List TyBn) (V : DP) (i l row p : Int) (here : AV) (z6 : Int) {Q : AQ} (hV : kD V) (hP : rP P V) (hL : L.2.1 = dR V ∧ hlB L) (hb : okB V β) (ht : tbs V β 0) (hi : 0 ≤ i ∧ i < dN V) (hrow : 0 ≤ row)
    (hQ : Q (some (iv (cif (choD V i l row p = 6) (-1) (choD V i l row p)))) (CH sb ss T G L O R P C B D S N (MV bm (BH 73 β)))) :
    ∀ (m : Nat) (r : Int), r + m = dR V → row < r → (∀ s, 0 ≤ s → s < r → ¬ ovV V i l row p s = pr4 V i l row p) → AW X (d + 6) 0 0 35 45 [rf 17, rf 12, iv row, iv i, here, iv (pr4 V i l row p), iv z6, iv r] [] (CH sb ss T G L O R P C B D S N (MV bm (BH 73 β))) Q := by
  have h6 := hV.2.2.2.2.1
  have hn := hV.1
  have hv := VV_r hV (dN V - i).toNat (dB V l) row (cif (l < 0) 0 p) (by omega)
  have hpr : 0 ≤ pr4 V i l row p ∧ pr4 V i l row p ≤ 64001 * (dN V - i).toNat := hv
  intro m
  induction m with
  | zero =>
    intro r hm hrr hno
    have hc : choD V i l row p = 6 := by
      refine cho_is hV hi (by omega) ?_ (fun s s0 s1 => ?_)
      · obtain ⟨a1, a2, a3⟩ := cho_ok hV (l := l) (r := row) (p := p) hi
        have : choD V i l row p = 6 := by
          rcases Int.lt_or_le (choD V i l row p) r with q | q
          · exact absurd a2 (hno _ a1.1 q)
          · by_cases e : choD V i l row p = 6
            · exact e
            · exact absurd a2 (ov_far hV hi (Or.inr (by omega)) e)
        rw [this] at a2
        exact a2
      · rcases Int.lt_or_le s r with q | q
        · exact hno s s0 q
        · exact ov_far hV hi (Or.inr (by omega)) (by omega)
    rw [cif_t hc] at hQ
    refine aw_tree (I0_ok X _) [(true, 49), (false, 24)] [45] rfl ?_
    dsimp only
    repeat' (first | refine And.intro ?_ ?_ | (refine aImp_e0 ?_; intro _) | (refine aImp_n0 ?_; intro _) | (refine aImp_i ?_; intro _))
    all_goals (try (first | omega | exact bI_01 _ | exact bI_lo _ | exact bI_hi _ | exact bI_hi' _ | exact trivial | exact Or.inl rfl | exact Or.inr rfl | (exfalso; omega)))
    exact hQ
  | succ m ih =>
    intro r hm hrr hno
    obtain ⟨k, rfl⟩ : ∃ k : Nat, r = k := ⟨r.toNat, by omega⟩
    have hkl : k < β.length := by have := hb.1; omega
    have hx := List.getElem?_eq_getElem hkl
    have hx0 := hb.2 k _ hx
    have hz : (0 : Int) = begV V (dB V l i) row (cif (l < 0) 0 p) k := by unfold begV; rw [cif_f (by omega)]
    have hov := ov_row hV (i := i) (l := l) (row := row) (p := p) (r := k) hi (by omega) hz
    rw [cif_f (fun q => by omega), Int.sub_zero, ← hx0.2.2] at hov
    refine aw_tree (I0_ok X _) [(true, 49), (false, 24)] [45] rfl ?_
    dsimp only
    repeat' (first | refine And.intro ?_ ?_ | (refine aImp_e0 ?_; intro _) | (refine aImp_n0 ?_; intro _) | (refine aImp_i ?_; intro _))
    all_goals (try (first | omega | exact bI_01 _ | exact bI_lo _ | exact bI_hi _ | exact bI_hi' _ | exact trivial | exact Or.inl rfl | exact Or.inr rfl | (exfalso; omega)))
    refine aw_cf0 (c_benchAt _ sb ss T G L O R P C B D S N (MV bm (BH 73 β)) k (73 + 4 * k) (by omega) (by omega) (hL.2 k (by omega))) rfl ?_
    refine aw_tree (I0_ok X _) [(true, 49), (false, 24)] [45] rfl ?_
    refine aw_cf0 (c_canSitG _ sb ss T G L O R P C B D S N bm β k _ V (pr4 V i l row p) i 0 hV hP hb ht hx hi (by omega) (by unfold inR; omega)) rfl ?_
    by_cases hy : ovV V i l row p k = pr4 V i l row p
    · have hc := cho_is hV hi (by omega) hy hno
      rw [hc, cif_f (by omega)] at hQ
      rw [bI_t (hov.mpr hy)]
      refine aw_tree (I0_ok X _) [(true, 49), (false, 24)] [45] rfl ?_
      dsimp only
      repeat' (first | refine And.intro ?_ ?_ | (refine aImp_e0 ?_; intro _) | (refine aImp_n0 ?_; intro _) | (refine aImp_i ?_; intro _))
      all_goals (try (first | omega | exact bI_01 _ | exact bI_lo _ | exact bI_hi _ | exact bI_hi' _ | exact trivial | exact Or.inl rfl | exact Or.inr rfl | (exfalso; omega)))
      exact hQ
    · rw [bI_f (fun q => hy (hov.mp q))]
      have goal := ih ((k : Int) + 1) (by omega) (by omega) (fun s s0 s1 => by
        by_cases e : s = k
        · rw [e]; exact hy
        · exact hno s s0 (by omega))
      refine aw_tree (I0_ok X _) [(true, 49), (false, 24)] [45] rfl ?_
      dsimp only
      repeat' (first | refine And.intro ?_ ?_ | (refine aImp_e0 ?_; intro _) | (refine aImp_n0 ?_; intro _) | (refine aImp_i ?_; intro _))
      all_goals (try (first | omega | exact bI_01 _ | exact bI_lo _ | exact bI_hi _ | exact bI_hi' _ | exact trivial | exact Or.inl rfl | exact Or.inr rfl | (exfalso; omega)))
      exact goal
set_option maxRecDepth 100000 in
theorem c_chooseRow {X : AX} (d : Nat) (sb ss : Nat) (T : TyT) (G : TyG) (L : TyL) (O : TyO) (R : TyR) (P : TyP) (C : TyC) (B D : TyB) (S N : TyS) (bm : AC24) (β : List TyBn) (V : DP) (i row p : Int) (hV : kD V) (hP : rP P V) (hL : L.2.1 = dR V ∧ hlB L) (hb : okB V β) (ht : tbs V β 0) (hi : 0 ≤ i ∧ i < dN V) (hrow : 0 ≤ row ∧ row ≤ 6) (hl : -1 ≤ P.2.2.2.2.2.2.2.2.2.2.2.2.2 ∧ P.2.2.2.2.2.2.2.2.2.2.2.2.2 < i) (hu : P.2.2.2.2.2.2.2.2.2.2.2.2.1 = cif (P.2.2.2.2.2.2.2.2.2.2.2.2.2 < 0) 0 p) (hu2 : 0 ≤ P.2.2.2.2.2.2.2.2.2.2.2.2.1 ∧ (row < dR V → P.2.2.2.2.2.2.2.2.2.2.2.2.1 ≤ dX V row)) :
    AF X (d + 6) 0 0 35 [rf 17, rf 12, iv row, iv i] (CH sb ss T G L O R P C B D S N (MV bm (BH 73 β))) (some (iv (cif (choD V i P.2.2.2.2.2.2.2.2.2.2.2.2.2 row p = 6) (-1) (choD V i P.2.2.2.2.2.2.2.2.2.2.2.2.2 row p)))) (CH sb ss T G L O R P C B D S N (MV bm (BH 73 β))) := by
  have h6 := hV.2.2.2.2.1
  have hn := hV.1
  have p8 := hP.2.2.2.2.2.2.2.1
  have hw := hV.2.2.1 i hi.1 hi.2
  have hF := hV.2.2.2.2.2.2.1
  have hE := hV.2.2.2.2.2.2.2
  by_cases hr : row < dR V
  · obtain ⟨k, rfl⟩ : ∃ k : Nat, row = k := ⟨row.toNat, by omega⟩
    have hkl : k < β.length := by have := hb.1; omega
    have hx := List.getElem?_eq_getElem hkl
    have hx0 := hb.2 k _ hx
    have hX := hV.2.2.2.2.2.1 k (by omega) hr
    have hu3 := hu2.2 hr
    have hv := VV_r hV (dN V - i).toNat (dB V P.2.2.2.2.2.2.2.2.2.2.2.2.2) k (cif (P.2.2.2.2.2.2.2.2.2.2.2.2.2 < 0) 0 p) (by omega)
    have hpr : 0 ≤ pr4 V i P.2.2.2.2.2.2.2.2.2.2.2.2.2 k p ∧ pr4 V i P.2.2.2.2.2.2.2.2.2.2.2.2.2 k p ≤ 64001 * (dN V - i).toNat := hv
    have hpe : pr4 V i P.2.2.2.2.2.2.2.2.2.2.2.2.2 k p = VV V (dN V - i).toNat (dB V P.2.2.2.2.2.2.2.2.2.2.2.2.2) k P.2.2.2.2.2.2.2.2.2.2.2.2.1 := by unfold pr4; rw [hu]
    have hz : P.2.2.2.2.2.2.2.2.2.2.2.2.1 + cif (dB V P.2.2.2.2.2.2.2.2.2.2.2.2.2 i) (dF V) 0 = begV V (dB V P.2.2.2.2.2.2.2.2.2.2.2.2.2 i) k (cif (P.2.2.2.2.2.2.2.2.2.2.2.2.2 < 0) 0 p) k := by unfold begV; rw [cif_t rfl, hu]
    have hov := ov_row hV (i := i) (l := P.2.2.2.2.2.2.2.2.2.2.2.2.2) (row := k) (p := p) (r := k) hi (by omega) hz
    rw [← hx0.2.2] at hov
    have hno : ∀ s, 0 ≤ s → s < (k : Int) → ¬ ovV V i P.2.2.2.2.2.2.2.2.2.2.2.2.2 k p s = pr4 V i P.2.2.2.2.2.2.2.2.2.2.2.2.2 k p := fun s s0 s1 => ov_far hV hi (Or.inl s1) (by omega)
    refine aw_tree (I0_ok X _) [(true, 49), (false, 24)] [] rfl ?_
    refine aw_cf0 (c_benchAt _ sb ss T G L O R P C B D S N (MV bm (BH 73 β)) k (73 + 4 * k) (by omega) (by omega) (hL.2 k (by omega))) rfl ?_
    refine aw_tree (I0_ok X _) [(true, 49), (false, 24)] [] rfl ?_
    refine aw_cf0 (c_pbG _ sb ss T G L O R P C B D S N bm β k _ V i P.2.2.2.2.2.2.2.2.2.2.2.2.2 P.2.2.2.2.2.2.2.2.2.2.2.2.1 hV hP hb ht hx (by omega) hl (by omega)) rfl ?_
    rw [← hpe]
    refine aw_tree (I0_ok X _) [(true, 49), (false, 24)] [] rfl ?_
    refine aw_cf0 (c_pBarred _ sb ss T G L O R P C B D S N (MV bm (BH 73 β)) _ i V hP hl (by omega) (by omega)) rfl ?_
    have fin : ∀ z : Int, z = cif ((k : Int) = k ∧ dB V P.2.2.2.2.2.2.2.2.2.2.2.2.2 i) (64 * dE V) 0 → AW X (d + 6) 0 0 35 27 [rf 17, rf 12, iv k, iv i, rf (73 + 4 * k), iv (pr4 V i P.2.2.2.2.2.2.2.2.2.2.2.2.2 k p), jk, jk] [iv z] (CH sb ss T G L O R P C B D S N (MV bm (BH 73 β))) (fun r' h'' => r' = some (iv (cif (choD V i P.2.2.2.2.2.2.2.2.2.2.2.2.2 k p = 6) (-1) (choD V i P.2.2.2.2.2.2.2.2.2.2.2.2.2 k p))) ∧ h'' = CH sb ss T G L O R P C B D S N (MV bm (BH 73 β))) := by
      intro z hzz
      have hzr : 0 ≤ z ∧ z ≤ 64000 := by
        rw [hzz]
        by_cases q : (k : Int) = k ∧ dB V P.2.2.2.2.2.2.2.2.2.2.2.2.2 i
        · rw [cif_t q]; omega
        · rw [cif_f q]; omega
      have hfr : 0 ≤ cif (dB V P.2.2.2.2.2.2.2.2.2.2.2.2.2 i) (dF V) 0 ∧ cif (dB V P.2.2.2.2.2.2.2.2.2.2.2.2.2 i) (dF V) 0 ≤ 4 := by
        by_cases q : dB V P.2.2.2.2.2.2.2.2.2.2.2.2.2 i
        · rw [cif_t q]; omega
        · rw [cif_f q]; omega
      rw [← hzz] at hov
      refine aw_tree (I0_ok X _) [(true, 49), (false, 24)] [] rfl ?_
      refine aw_cf0 (c_placeBeside _ sb ss T G L O R P C B D S N (MV bm (BH 73 β)) i V hV hP hl (by omega)) rfl ?_
      refine aw_tree (I0_ok X _) [(true, 49), (false, 24)] [] rfl ?_
      refine aw_cf0 (c_canSitG _ sb ss T G L O R P C B D S N bm β k _ V (pr4 V i P.2.2.2.2.2.2.2.2.2.2.2.2.2 k p - z) i _ hV hP hb ht hx hi (by omega) (by unfold inR; omega)) rfl ?_
      by_cases hy : ovV V i P.2.2.2.2.2.2.2.2.2.2.2.2.2 k p k = pr4 V i P.2.2.2.2.2.2.2.2.2.2.2.2.2 k p
      · have hc := cho_is hV hi (by omega) hy hno
        rw [hc, cif_f (show ¬ (k : Int) = 6 from by omega)]
        rw [bI_t (hov.mpr hy)]
        refine aw_tree (I0_ok X _) [(true, 49), (false, 24)] [45] rfl ?_
        dsimp only
        repeat' (first | refine And.intro ?_ ?_ | (refine aImp_e0 ?_; intro _) | (refine aImp_n0 ?_; intro _) | (refine aImp_i ?_; intro _))
        all_goals (try (first | omega | exact bI_01 _ | exact bI_lo _ | exact bI_hi _ | exact bI_hi' _ | exact trivial | exact Or.inl rfl | exact Or.inr rfl | (exfalso; omega)))
        all_goals rfl
      · rw [bI_f (fun q => hy (hov.mp q))]
        refine aw_tree (I0_ok X _) [(true, 49), (false, 24)] [45] rfl ?_
        dsimp only
        repeat' (first | refine And.intro ?_ ?_ | (refine aImp_e0 ?_; intro _) | (refine aImp_n0 ?_; intro _) | (refine aImp_i ?_; intro _))
        all_goals (try (first | omega | exact bI_01 _ | exact bI_lo _ | exact bI_hi _ | exact bI_hi' _ | exact trivial | exact Or.inl rfl | exact Or.inr rfl | (exfalso; omega)))
        exact c_choose_loop d sb ss T G L O R P C B D S N bm β V i _ k p (rf (73 + 4 * k)) z hV hP hL hb ht hi (by omega) ⟨rfl, rfl⟩ (dR V - (k + 1)).toNat (k + 1) (by omega) (by omega) (fun s s0 s1 => by
          by_cases e : s = k
          · rw [e]; exact hy
          · exact hno s s0 (by omega))
    by_cases hbb : dB V P.2.2.2.2.2.2.2.2.2.2.2.2.2 i
    · rw [bI_t hbb]
      refine aw_tree (I0_ok X _) [(true, 49), (false, 24)] [27] rfl ?_
      dsimp only
      repeat' (first | refine And.intro ?_ ?_ | (refine aImp_e0 ?_; intro _) | (refine aImp_n0 ?_; intro _) | (refine aImp_i ?_; intro _))
      all_goals (try (first | omega | exact bI_01 _ | exact bI_lo _ | exact bI_hi _ | exact bI_hi' _ | exact trivial | exact Or.inl rfl | exact Or.inr rfl | (exfalso; omega)))
      exact fin _ (by rw [cif_t ⟨rfl, hbb⟩]; exact p8.2)
    · rw [bI_f hbb]
      refine aw_tree (I0_ok X _) [(true, 49), (false, 24)] [27] rfl ?_
      dsimp only
      repeat' (first | refine And.intro ?_ ?_ | (refine aImp_e0 ?_; intro _) | (refine aImp_n0 ?_; intro _) | (refine aImp_i ?_; intro _))
      all_goals (try (first | omega | exact bI_01 _ | exact bI_lo _ | exact bI_hi _ | exact bI_hi' _ | exact trivial | exact Or.inl rfl | exact Or.inr rfl | (exfalso; omega)))
      exact fin _ (by rw [cif_f (fun q => hbb q.2)])
  · have hc : choD V i P.2.2.2.2.2.2.2.2.2.2.2.2.2 row p = 6 := by
      by_cases e : choD V i P.2.2.2.2.2.2.2.2.2.2.2.2.2 row p = 6
      · exact e
      · have := cho_sit hV (l := P.2.2.2.2.2.2.2.2.2.2.2.2.2) (r := row) (p := p) hi e
        omega
    rw [cif_t hc]
    refine aw_tree (I0_ok X _) [(true, 49), (false, 24)] [] rfl ?_
    refine aw_cf0 (c_benchAt_no _ sb ss T G L O R P C B D S N (MV bm (BH 73 β)) row (by unfold inR; omega) (by omega) (by omega)) rfl ?_
    refine aw_tree (I0_ok X _) [(true, 49), (false, 24)] [] rfl ?_
    exact ⟨rfl, rfl⟩

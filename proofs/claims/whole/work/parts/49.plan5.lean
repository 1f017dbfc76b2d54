/-! ===== plan: the tables of all benches ===== -/
theorem c_benchAt {X : AX} (d : Nat) (sb ss : Nat) (T : TyT) (G : TyG) (L : TyL) (O : TyO) (R : TyR) (P : TyP) (C : TyC) (B D : TyB) (S N : TyS) (t : AH) (row : Int) (q : Nat) (hr : 0 ≤ row ∧ row < L.2.1) (hc : L.2.1 ≤ 6) (hL : L.1 row = some q) : AF X (d + 3) 0 0 17 [rf 12, iv row] (CH sb ss T G L O R P C B D S N t) (some (rf q)) (CH sb ss T G L O R P C B D S N t) := by
  refine aw_tree (I0_ok X _) [(true, 49)] [] rfl ?_
  rw [hL]
  repeat' (first | refine And.intro ?_ ?_ | (refine aImp_e0 ?_; intro _) | (refine aImp_n0 ?_; intro _) | (refine aImp_i ?_; intro _))
  all_goals (try (first | omega | exact bI_01 _ | exact bI_lo _ | exact bI_hi _ | exact bI_hi' _ | exact trivial | exact Or.inl rfl | exact Or.inr rfl | (exfalso; omega)))
  all_goals rfl
theorem c_benchAt_no {X : AX} (d : Nat) (sb ss : Nat) (T : TyT) (G : TyG) (L : TyL) (O : TyO) (R : TyR) (P : TyP) (C : TyC) (B D : TyB) (S N : TyS) (t : AH) (row : Int) (hrr : inR row) (hr : ¬ (0 ≤ row ∧ row < L.2.1)) (hc : 0 ≤ L.2.1 ∧ L.2.1 ≤ 6) : AF X (d + 3) 0 0 17 [rf 12, iv row] (CH sb ss T G L O R P C B D S N t) (some nl) (CH sb ss T G L O R P C B D S N t) := by
  unfold inR at hrr
  refine aw_tree (I0_ok X _) [(true, 49)] [] rfl ?_
  repeat' (first | refine And.intro ?_ ?_ | (refine aImp_e0 ?_; intro _) | (refine aImp_n0 ?_; intro _) | (refine aImp_i ?_; intro _))
  all_goals (try (first | omega | exact bI_01 _ | exact bI_lo _ | exact bI_hi _ | exact bI_hi' _ | exact trivial | exact Or.inl rfl | exact Or.inr rfl | (exfalso; omega)))
  all_goals rfl
def okB (V : DP) (β : List TyBn) : Prop := (β.length : Int) = dR V ∧ ∀ (r : Nat) (b : TyBn), β[r]? = some b → b.1 = r ∧ (0 ≤ b.2.1 ∧ b.2.1 ≤ 40) ∧ b.2.1 = dX V r
def tbs (V : DP) (β : List TyBn) (j : Nat) : Prop := ∀ (r : Nat) (b : TyBn), j ≤ r → β[r]? = some b → tR V r b 0 ∧ tA V r b 0 ∧ tH V r b 0
def hlB (L : TyL) : Prop := ∀ i : Nat, (i : Int) < L.2.1 → L.1 i = some (73 + 4 * i)
/-- floor and distance of the benches -/
def hdB (β : List TyBn) : List (Int × Int) := β.map (fun b => (b.2.2.1, b.2.2.2.1))
theorem hdB_set {β : List TyBn} {r : Nat} {x : TyBn} {f g h : FN} (hx : β[r]? = some x) : hdB (β.set r (bnT x f g h)) = hdB β := by
  obtain ⟨hl, hx'⟩ := List.getElem?_eq_some_iff.mp hx
  unfold hdB
  apply List.ext_getElem?
  intro i
  rw [List.getElem?_map, List.getElem?_map]
  by_cases e : i = r
  · subst e
    rw [List.getElem?_set_self hl, hx]
    rfl
  · rw [List.getElem?_set_ne (fun k => e k.symm)]
theorem okB_set {V : DP} {β : List TyBn} {r : Nat} {x : TyBn} {f g h : FN} (hb : okB V β) (hx : β[r]? = some x) : okB V (β.set r (bnT x f g h)) := by
  obtain ⟨h1, h2⟩ := hb
  obtain ⟨hl, _⟩ := List.getElem?_eq_some_iff.mp hx
  refine ⟨by rw [List.length_set]; exact h1, fun r' b hb' => ?_⟩
  by_cases e : r' = r
  · subst e
    rw [List.getElem?_set_self hl] at hb'
    cases hb'
    exact h2 r' x hx
  · rw [List.getElem?_set_ne (fun k => e k.symm)] at hb'
    exact h2 r' b hb'
theorem tbs_set {V : DP} {β : List TyBn} {r : Nat} {x : TyBn} {f g h : FN} (hb : tbs V β (r + 1)) (hx : β[r]? = some x) (t1 : tR V r (bnT x f g h) 0) (t2 : tA V r (bnT x f g h) 0) (t3 : tH V r (bnT x f g h) 0) : tbs V (β.set r (bnT x f g h)) r := by
  obtain ⟨hl, _⟩ := List.getElem?_eq_some_iff.mp hx
  intro r' b hr hb'
  by_cases e : r' = r
  · subst e
    rw [List.getElem?_set_self hl] at hb'
    cases hb'
    exact ⟨t1, t2, t3⟩
  · rw [List.getElem?_set_ne (fun k => e k.symm)] at hb'
    exact hb r' b (by omega) hb'
set_option maxRecDepth 100000 in
theorem c_pstep0 {X : AX} (d : Nat) (sb ss : Nat) (T : TyT) (G : TyG) (L : TyL) (O : TyO) (R : TyR) (P : TyP) (C : TyC) (B D : TyB) (S N : TyS) (bm : AC24) (bt : List TyBn) (x : TyBn) (V : DP) (sx : Nat) {Q : AQ} (hV : kD V) (hP : rP P V) (hL : L.2.1 = dR V ∧ hlB L) (hb : okB V (x :: bt)) (ht : tbs V (x :: bt) 1)
    (hQ : ∀ f g h : FN, tR V 0 (bnT x f g h) 0 → tA V 0 (bnT x f g h) 0 → tH V 0 (bnT x f g h) 0 → AW X (d + 8) 0 0 26 15 [rf 17, rf 12, rf sx, iv (0 + -1)] [] (CH sb ss T G L O R P C B D S N (MV bm (BH 73 (bnT x f g h :: bt)))) Q) :
    AW X (d + 8) 0 0 26 15 [rf 17, rf 12, rf sx, iv 0] [] (CH sb ss T G L O R P C B D S N (MV bm (BH 73 (x :: bt)))) Q := by
  have hx0 := hb.2 0 x rfl
  have hlen : ((0 + 1 + bt.length : Nat) : Int) = dR V := by
    rw [← hb.1]
    simp only [List.length_cons]
    omega
  have hn := hV.1
  have hr6 := hV.2.2.2.2.1
  have hx : x.1 = 0 ∧ (0 ≤ x.2.1 ∧ x.2.1 ≤ 40) ∧ x.2.1 = dX V 0 ∧ (0 : Int) < dR V := ⟨hx0.1, hx0.2.1, hx0.2.2, by omega⟩
  have p7 := hP.2.2.2.2.2.2.1
  refine aw_tree (I1_ok X _) [(true, 49), (false, 24), (true, 4)] [15, 29] rfl ?_
  dsimp only
  repeat' (first | refine And.intro ?_ ?_ | (refine aImp_e0 ?_; intro _) | (refine aImp_n0 ?_; intro _) | (refine aImp_i ?_; intro _))
  all_goals (try (first | omega | exact bI_01 _ | exact bI_lo _ | exact bI_hi _ | exact bI_hi' _ | exact trivial | exact Or.inl rfl | exact Or.inr rfl | (exfalso; omega)))
  refine aw_cf0 (c_benchAt _ sb ss T G L O R P C B D S N (MV bm (BH 73 (x :: bt))) 0 73 (by omega) (by omega) (hL.2 0 (by omega))) rfl ?_
  refine aw_tree (I1_ok X _) [(true, 49), (false, 24), (true, 4)] [15, 29] rfl ?_
  cases bt with
  | nil =>
    have hR : dR V = 0 + 1 := by simp only [List.length_nil] at hlen; omega
    refine aw_cf0 (c_benchAt_no _ sb ss T G L O R P C B D S N (MV bm (BH 73 (x :: []))) (0 + 1) (by unfold inR; omega) (by omega) (by omega)) rfl ?_
    refine aw_tree (I1_ok X _) [(true, 49), (false, 24), (true, 4)] [15, 29] rfl ?_
    refine aw_ck0 (c_fillTables0 _ sb ss T G L O R P C B D S N bm  [] x V none hV hP hx (fun f g h i i0 i1 => ?_) (fun f g h t1 t2 t3 => ?_)) rfl
    · rw [VV_norow hV (dN V - i).toNat _ (0 + 1) 0 (by omega) (by omega), ← p7 i i0 (by omega)]
      exact c_pfN _ sb ss T G L O R P C B D S N (MV bm (BH 73 (bnT x f g h :: []))) i (by omega)
    · refine aw_tree (I1_ok X _) [(true, 49), (false, 24), (true, 4)] [15, 29] rfl ?_
      exact hQ f g h t1 t2 t3
  | cons y bt =>
    have hy0 := hb.2 1 y rfl
    have hty := ht 1 y (by omega) rfl
    have hR : (0 : Int) + 1 < dR V := by simp only [List.length_cons] at hlen; omega
    refine aw_cf0 (c_benchAt _ sb ss T G L O R P C B D S N (MV bm (BH 73 (x :: y :: bt))) (0 + 1) 77 (by omega) (by omega) (by rw [show (0 : Int) + 1 = ((1 : Nat) : Int) from rfl]; exact hL.2 1 (by omega))) rfl ?_
    refine aw_tree (I1_ok X _) [(true, 49), (false, 24), (true, 4)] [15, 29] rfl ?_
    refine aw_ck0 (c_fillTables0 _ sb ss T G L O R P C B D S N bm  (y :: bt) x V (some 77) hV hP hx (fun f g h i i0 i1 => ?_) (fun f g h t1 t2 t3 => ?_)) rfl
    · exact c_pf1 _ sb ss T G L O R P C B D S N bm  (bnT x f g h) bt y V i hV hy0.2.1 (by omega) hty.1
    · refine aw_tree (I1_ok X _) [(true, 49), (false, 24), (true, 4)] [15, 29] rfl ?_
      exact hQ f g h t1 t2 t3
set_option maxRecDepth 100000 in
theorem c_pstep1 {X : AX} (d : Nat) (sb ss : Nat) (T : TyT) (G : TyG) (L : TyL) (O : TyO) (R : TyR) (P : TyP) (C : TyC) (B D : TyB) (S N : TyS) (bm : AC24) (b0 : TyBn) (bt : List TyBn) (x : TyBn) (V : DP) (sx : Nat) {Q : AQ} (hV : kD V) (hP : rP P V) (hL : L.2.1 = dR V ∧ hlB L) (hb : okB V (b0 :: x :: bt)) (ht : tbs V (b0 :: x :: bt) 2)
    (hQ : ∀ f g h : FN, tR V 1 (bnT x f g h) 0 → tA V 1 (bnT x f g h) 0 → tH V 1 (bnT x f g h) 0 → AW X (d + 8) 0 0 26 15 [rf 17, rf 12, rf sx, iv (1 + -1)] [] (CH sb ss T G L O R P C B D S N (MV bm (BH 73 (b0 :: bnT x f g h :: bt)))) Q) :
    AW X (d + 8) 0 0 26 15 [rf 17, rf 12, rf sx, iv 1] [] (CH sb ss T G L O R P C B D S N (MV bm (BH 73 (b0 :: x :: bt)))) Q := by
  have hx0 := hb.2 1 x rfl
  have hlen : ((1 + 1 + bt.length : Nat) : Int) = dR V := by
    rw [← hb.1]
    simp only [List.length_cons]
    omega
  have hn := hV.1
  have hr6 := hV.2.2.2.2.1
  have hx : x.1 = 1 ∧ (0 ≤ x.2.1 ∧ x.2.1 ≤ 40) ∧ x.2.1 = dX V 1 ∧ (1 : Int) < dR V := ⟨hx0.1, hx0.2.1, hx0.2.2, by omega⟩
  have p7 := hP.2.2.2.2.2.2.1
  refine aw_tree (I1_ok X _) [(true, 49), (false, 24), (true, 8)] [15, 29] rfl ?_
  dsimp only
  repeat' (first | refine And.intro ?_ ?_ | (refine aImp_e0 ?_; intro _) | (refine aImp_n0 ?_; intro _) | (refine aImp_i ?_; intro _))
  all_goals (try (first | omega | exact bI_01 _ | exact bI_lo _ | exact bI_hi _ | exact bI_hi' _ | exact trivial | exact Or.inl rfl | exact Or.inr rfl | (exfalso; omega)))
  refine aw_cf0 (c_benchAt _ sb ss T G L O R P C B D S N (MV bm (BH 73 (b0 :: x :: bt))) 1 77 (by omega) (by omega) (hL.2 1 (by omega))) rfl ?_
  refine aw_tree (I1_ok X _) [(true, 49), (false, 24), (true, 8)] [15, 29] rfl ?_
  cases bt with
  | nil =>
    have hR : dR V = 1 + 1 := by simp only [List.length_nil] at hlen; omega
    refine aw_cf0 (c_benchAt_no _ sb ss T G L O R P C B D S N (MV bm (BH 73 (b0 :: x :: []))) (1 + 1) (by unfold inR; omega) (by omega) (by omega)) rfl ?_
    refine aw_tree (I1_ok X _) [(true, 49), (false, 24), (true, 8)] [15, 29] rfl ?_
    refine aw_ck0 (c_fillTables1 _ sb ss T G L O R P C B D S N bm b0 [] x V none hV hP hx (fun f g h i i0 i1 => ?_) (fun f g h t1 t2 t3 => ?_)) rfl
    · rw [VV_norow hV (dN V - i).toNat _ (1 + 1) 0 (by omega) (by omega), ← p7 i i0 (by omega)]
      exact c_pfN _ sb ss T G L O R P C B D S N (MV bm (BH 73 (b0 :: bnT x f g h :: []))) i (by omega)
    · refine aw_tree (I1_ok X _) [(true, 49), (false, 24), (true, 8)] [15, 29] rfl ?_
      exact hQ f g h t1 t2 t3
  | cons y bt =>
    have hy0 := hb.2 2 y rfl
    have hty := ht 2 y (by omega) rfl
    have hR : (1 : Int) + 1 < dR V := by simp only [List.length_cons] at hlen; omega
    refine aw_cf0 (c_benchAt _ sb ss T G L O R P C B D S N (MV bm (BH 73 (b0 :: x :: y :: bt))) (1 + 1) 81 (by omega) (by omega) (by rw [show (1 : Int) + 1 = ((2 : Nat) : Int) from rfl]; exact hL.2 2 (by omega))) rfl ?_
    refine aw_tree (I1_ok X _) [(true, 49), (false, 24), (true, 8)] [15, 29] rfl ?_
    refine aw_ck0 (c_fillTables1 _ sb ss T G L O R P C B D S N bm b0 (y :: bt) x V (some 81) hV hP hx (fun f g h i i0 i1 => ?_) (fun f g h t1 t2 t3 => ?_)) rfl
    · exact c_pf2 _ sb ss T G L O R P C B D S N bm b0 (bnT x f g h) bt y V i hV hy0.2.1 (by omega) hty.1
    · refine aw_tree (I1_ok X _) [(true, 49), (false, 24), (true, 8)] [15, 29] rfl ?_
      exact hQ f g h t1 t2 t3
set_option maxRecDepth 100000 in
theorem c_pstep2 {X : AX} (d : Nat) (sb ss : Nat) (T : TyT) (G : TyG) (L : TyL) (O : TyO) (R : TyR) (P : TyP) (C : TyC) (B D : TyB) (S N : TyS) (bm : AC24) (b0 b1 : TyBn) (bt : List TyBn) (x : TyBn) (V : DP) (sx : Nat) {Q : AQ} (hV : kD V) (hP : rP P V) (hL : L.2.1 = dR V ∧ hlB L) (hb : okB V (b0 :: b1 :: x :: bt)) (ht : tbs V (b0 :: b1 :: x :: bt) 3)
    (hQ : ∀ f g h : FN, tR V 2 (bnT x f g h) 0 → tA V 2 (bnT x f g h) 0 → tH V 2 (bnT x f g h) 0 → AW X (d + 8) 0 0 26 15 [rf 17, rf 12, rf sx, iv (2 + -1)] [] (CH sb ss T G L O R P C B D S N (MV bm (BH 73 (b0 :: b1 :: bnT x f g h :: bt)))) Q) :
    AW X (d + 8) 0 0 26 15 [rf 17, rf 12, rf sx, iv 2] [] (CH sb ss T G L O R P C B D S N (MV bm (BH 73 (b0 :: b1 :: x :: bt)))) Q := by
  have hx0 := hb.2 2 x rfl
  have hlen : ((2 + 1 + bt.length : Nat) : Int) = dR V := by
    rw [← hb.1]
    simp only [List.length_cons]
    omega
  have hn := hV.1
  have hr6 := hV.2.2.2.2.1
  have hx : x.1 = 2 ∧ (0 ≤ x.2.1 ∧ x.2.1 ≤ 40) ∧ x.2.1 = dX V 2 ∧ (2 : Int) < dR V := ⟨hx0.1, hx0.2.1, hx0.2.2, by omega⟩
  have p7 := hP.2.2.2.2.2.2.1
  refine aw_tree (I1_ok X _) [(true, 49), (false, 24), (true, 12)] [15, 29] rfl ?_
  dsimp only
  repeat' (first | refine And.intro ?_ ?_ | (refine aImp_e0 ?_; intro _) | (refine aImp_n0 ?_; intro _) | (refine aImp_i ?_; intro _))
  all_goals (try (first | omega | exact bI_01 _ | exact bI_lo _ | exact bI_hi _ | exact bI_hi' _ | exact trivial | exact Or.inl rfl | exact Or.inr rfl | (exfalso; omega)))
  refine aw_cf0 (c_benchAt _ sb ss T G L O R P C B D S N (MV bm (BH 73 (b0 :: b1 :: x :: bt))) 2 81 (by omega) (by omega) (hL.2 2 (by omega))) rfl ?_
  refine aw_tree (I1_ok X _) [(true, 49), (false, 24), (true, 12)] [15, 29] rfl ?_
  cases bt with
  | nil =>
    have hR : dR V = 2 + 1 := by simp only [List.length_nil] at hlen; omega
    refine aw_cf0 (c_benchAt_no _ sb ss T G L O R P C B D S N (MV bm (BH 73 (b0 :: b1 :: x :: []))) (2 + 1) (by unfold inR; omega) (by omega) (by omega)) rfl ?_
    refine aw_tree (I1_ok X _) [(true, 49), (false, 24), (true, 12)] [15, 29] rfl ?_
    refine aw_ck0 (c_fillTables2 _ sb ss T G L O R P C B D S N bm b0 b1 [] x V none hV hP hx (fun f g h i i0 i1 => ?_) (fun f g h t1 t2 t3 => ?_)) rfl
    · rw [VV_norow hV (dN V - i).toNat _ (2 + 1) 0 (by omega) (by omega), ← p7 i i0 (by omega)]
      exact c_pfN _ sb ss T G L O R P C B D S N (MV bm (BH 73 (b0 :: b1 :: bnT x f g h :: []))) i (by omega)
    · refine aw_tree (I1_ok X _) [(true, 49), (false, 24), (true, 12)] [15, 29] rfl ?_
      exact hQ f g h t1 t2 t3
  | cons y bt =>
    have hy0 := hb.2 3 y rfl
    have hty := ht 3 y (by omega) rfl
    have hR : (2 : Int) + 1 < dR V := by simp only [List.length_cons] at hlen; omega
    refine aw_cf0 (c_benchAt _ sb ss T G L O R P C B D S N (MV bm (BH 73 (b0 :: b1 :: x :: y :: bt))) (2 + 1) 85 (by omega) (by omega) (by rw [show (2 : Int) + 1 = ((3 : Nat) : Int) from rfl]; exact hL.2 3 (by omega))) rfl ?_
    refine aw_tree (I1_ok X _) [(true, 49), (false, 24), (true, 12)] [15, 29] rfl ?_
    refine aw_ck0 (c_fillTables2 _ sb ss T G L O R P C B D S N bm b0 b1 (y :: bt) x V (some 85) hV hP hx (fun f g h i i0 i1 => ?_) (fun f g h t1 t2 t3 => ?_)) rfl
    · exact c_pf3 _ sb ss T G L O R P C B D S N bm b0 b1 (bnT x f g h) bt y V i hV hy0.2.1 (by omega) hty.1
    · refine aw_tree (I1_ok X _) [(true, 49), (false, 24), (true, 12)] [15, 29] rfl ?_
      exact hQ f g h t1 t2 t3
set_option maxRecDepth 100000 in
theorem c_pstep3 {X : AX} (d : Nat) (sb ss : Nat) (T : TyT) (G : TyG) (L : TyL) (O : TyO) (R : TyR) (P : TyP) (C : TyC) (B D : TyB) (S N : TyS) (bm : AC24) (b0 b1 b2 : TyBn) (bt : List TyBn) (x : TyBn) (V : DP) (sx : Nat) {Q : AQ} (hV : kD V) (hP : rP P V) (hL : L.2.1 = dR V ∧ hlB L) (hb : okB V (b0 :: b1 :: b2 :: x :: bt)) (ht : tbs V (b0 :: b1 :: b2 :: x :: bt) 4)
    (hQ : ∀ f g h : FN, tR V 3 (bnT x f g h) 0 → tA V 3 (bnT x f g h) 0 → tH V 3 (bnT x f g h) 0 → AW X (d + 8) 0 0 26 15 [rf 17, rf 12, rf sx, iv (3 + -1)] [] (CH sb ss T G L O R P C B D S N (MV bm (BH 73 (b0 :: b1 :: b2 :: bnT x f g h :: bt)))) Q) :
    AW X (d + 8) 0 0 26 15 [rf 17, rf 12, rf sx, iv 3] [] (CH sb ss T G L O R P C B D S N (MV bm (BH 73 (b0 :: b1 :: b2 :: x :: bt)))) Q := by
  have hx0 := hb.2 3 x rfl
  have hlen : ((3 + 1 + bt.length : Nat) : Int) = dR V := by
    rw [← hb.1]
    simp only [List.length_cons]
    omega
  have hn := hV.1
  have hr6 := hV.2.2.2.2.1
  have hx : x.1 = 3 ∧ (0 ≤ x.2.1 ∧ x.2.1 ≤ 40) ∧ x.2.1 = dX V 3 ∧ (3 : Int) < dR V := ⟨hx0.1, hx0.2.1, hx0.2.2, by omega⟩
  have p7 := hP.2.2.2.2.2.2.1
  refine aw_tree (I1_ok X _) [(true, 49), (false, 24), (true, 16)] [15, 29] rfl ?_
  dsimp only
  repeat' (first | refine And.intro ?_ ?_ | (refine aImp_e0 ?_; intro _) | (refine aImp_n0 ?_; intro _) | (refine aImp_i ?_; intro _))
  all_goals (try (first | omega | exact bI_01 _ | exact bI_lo _ | exact bI_hi _ | exact bI_hi' _ | exact trivial | exact Or.inl rfl | exact Or.inr rfl | (exfalso; omega)))
  refine aw_cf0 (c_benchAt _ sb ss T G L O R P C B D S N (MV bm (BH 73 (b0 :: b1 :: b2 :: x :: bt))) 3 85 (by omega) (by omega) (hL.2 3 (by omega))) rfl ?_
  refine aw_tree (I1_ok X _) [(true, 49), (false, 24), (true, 16)] [15, 29] rfl ?_
  cases bt with
  | nil =>
    have hR : dR V = 3 + 1 := by simp only [List.length_nil] at hlen; omega
    refine aw_cf0 (c_benchAt_no _ sb ss T G L O R P C B D S N (MV bm (BH 73 (b0 :: b1 :: b2 :: x :: []))) (3 + 1) (by unfold inR; omega) (by omega) (by omega)) rfl ?_
    refine aw_tree (I1_ok X _) [(true, 49), (false, 24), (true, 16)] [15, 29] rfl ?_
    refine aw_ck0 (c_fillTables3 _ sb ss T G L O R P C B D S N bm b0 b1 b2 [] x V none hV hP hx (fun f g h i i0 i1 => ?_) (fun f g h t1 t2 t3 => ?_)) rfl
    · rw [VV_norow hV (dN V - i).toNat _ (3 + 1) 0 (by omega) (by omega), ← p7 i i0 (by omega)]
      exact c_pfN _ sb ss T G L O R P C B D S N (MV bm (BH 73 (b0 :: b1 :: b2 :: bnT x f g h :: []))) i (by omega)
    · refine aw_tree (I1_ok X _) [(true, 49), (false, 24), (true, 16)] [15, 29] rfl ?_
      exact hQ f g h t1 t2 t3
  | cons y bt =>
    have hy0 := hb.2 4 y rfl
    have hty := ht 4 y (by omega) rfl
    have hR : (3 : Int) + 1 < dR V := by simp only [List.length_cons] at hlen; omega
    refine aw_cf0 (c_benchAt _ sb ss T G L O R P C B D S N (MV bm (BH 73 (b0 :: b1 :: b2 :: x :: y :: bt))) (3 + 1) 89 (by omega) (by omega) (by rw [show (3 : Int) + 1 = ((4 : Nat) : Int) from rfl]; exact hL.2 4 (by omega))) rfl ?_
    refine aw_tree (I1_ok X _) [(true, 49), (false, 24), (true, 16)] [15, 29] rfl ?_
    refine aw_ck0 (c_fillTables3 _ sb ss T G L O R P C B D S N bm b0 b1 b2 (y :: bt) x V (some 89) hV hP hx (fun f g h i i0 i1 => ?_) (fun f g h t1 t2 t3 => ?_)) rfl
    · exact c_pf4 _ sb ss T G L O R P C B D S N bm b0 b1 b2 (bnT x f g h) bt y V i hV hy0.2.1 (by omega) hty.1
    · refine aw_tree (I1_ok X _) [(true, 49), (false, 24), (true, 16)] [15, 29] rfl ?_
      exact hQ f g h t1 t2 t3
set_option maxRecDepth 100000 in
theorem c_pstep4 {X : AX} (d : Nat) (sb ss : Nat) (T : TyT) (G : TyG) (L : TyL) (O : TyO) (R : TyR) (P : TyP) (C : TyC) (B D : TyB) (S N : TyS) (bm : AC24) (b0 b1 b2 b3 : TyBn) (bt : List TyBn) (x : TyBn) (V : DP) (sx : Nat) {Q : AQ} (hV : kD V) (hP : rP P V) (hL : L.2.1 = dR V ∧ hlB L) (hb : okB V (b0 :: b1 :: b2 :: b3 :: x :: bt)) (ht : tbs V (b0 :: b1 :: b2 :: b3 :: x :: bt) 5)
    (hQ : ∀ f g h : FN, tR V 4 (bnT x f g h) 0 → tA V 4 (bnT x f g h) 0 → tH V 4 (bnT x f g h) 0 → AW X (d + 8) 0 0 26 15 [rf 17, rf 12, rf sx, iv (4 + -1)] [] (CH sb ss T G L O R P C B D S N (MV bm (BH 73 (b0 :: b1 :: b2 :: b3 :: bnT x f g h :: bt)))) Q) :
    AW X (d + 8) 0 0 26 15 [rf 17, rf 12, rf sx, iv 4] [] (CH sb ss T G L O R P C B D S N (MV bm (BH 73 (b0 :: b1 :: b2 :: b3 :: x :: bt)))) Q := by
  have hx0 := hb.2 4 x rfl
  have hlen : ((4 + 1 + bt.length : Nat) : Int) = dR V := by
    rw [← hb.1]
    simp only [List.length_cons]
    omega
  have hn := hV.1
  have hr6 := hV.2.2.2.2.1
  have hx : x.1 = 4 ∧ (0 ≤ x.2.1 ∧ x.2.1 ≤ 40) ∧ x.2.1 = dX V 4 ∧ (4 : Int) < dR V := ⟨hx0.1, hx0.2.1, hx0.2.2, by omega⟩
  have p7 := hP.2.2.2.2.2.2.1
  refine aw_tree (I1_ok X _) [(true, 49), (false, 24), (true, 20)] [15, 29] rfl ?_
  dsimp only
  repeat' (first | refine And.intro ?_ ?_ | (refine aImp_e0 ?_; intro _) | (refine aImp_n0 ?_; intro _) | (refine aImp_i ?_; intro _))
  all_goals (try (first | omega | exact bI_01 _ | exact bI_lo _ | exact bI_hi _ | exact bI_hi' _ | exact trivial | exact Or.inl rfl | exact Or.inr rfl | (exfalso; omega)))
  refine aw_cf0 (c_benchAt _ sb ss T G L O R P C B D S N (MV bm (BH 73 (b0 :: b1 :: b2 :: b3 :: x :: bt))) 4 89 (by omega) (by omega) (hL.2 4 (by omega))) rfl ?_
  refine aw_tree (I1_ok X _) [(true, 49), (false, 24), (true, 20)] [15, 29] rfl ?_
  cases bt with
  | nil =>
    have hR : dR V = 4 + 1 := by simp only [List.length_nil] at hlen; omega
    refine aw_cf0 (c_benchAt_no _ sb ss T G L O R P C B D S N (MV bm (BH 73 (b0 :: b1 :: b2 :: b3 :: x :: []))) (4 + 1) (by unfold inR; omega) (by omega) (by omega)) rfl ?_
    refine aw_tree (I1_ok X _) [(true, 49), (false, 24), (true, 20)] [15, 29] rfl ?_
    refine aw_ck0 (c_fillTables4 _ sb ss T G L O R P C B D S N bm b0 b1 b2 b3 [] x V none hV hP hx (fun f g h i i0 i1 => ?_) (fun f g h t1 t2 t3 => ?_)) rfl
    · rw [VV_norow hV (dN V - i).toNat _ (4 + 1) 0 (by omega) (by omega), ← p7 i i0 (by omega)]
      exact c_pfN _ sb ss T G L O R P C B D S N (MV bm (BH 73 (b0 :: b1 :: b2 :: b3 :: bnT x f g h :: []))) i (by omega)
    · refine aw_tree (I1_ok X _) [(true, 49), (false, 24), (true, 20)] [15, 29] rfl ?_
      exact hQ f g h t1 t2 t3
  | cons y bt =>
    have hy0 := hb.2 5 y rfl
    have hty := ht 5 y (by omega) rfl
    have hR : (4 : Int) + 1 < dR V := by simp only [List.length_cons] at hlen; omega
    refine aw_cf0 (c_benchAt _ sb ss T G L O R P C B D S N (MV bm (BH 73 (b0 :: b1 :: b2 :: b3 :: x :: y :: bt))) (4 + 1) 93 (by omega) (by omega) (by rw [show (4 : Int) + 1 = ((5 : Nat) : Int) from rfl]; exact hL.2 5 (by omega))) rfl ?_
    refine aw_tree (I1_ok X _) [(true, 49), (false, 24), (true, 20)] [15, 29] rfl ?_
    refine aw_ck0 (c_fillTables4 _ sb ss T G L O R P C B D S N bm b0 b1 b2 b3 (y :: bt) x V (some 93) hV hP hx (fun f g h i i0 i1 => ?_) (fun f g h t1 t2 t3 => ?_)) rfl
    · exact c_pf5 _ sb ss T G L O R P C B D S N bm b0 b1 b2 b3 (bnT x f g h) bt y V i hV hy0.2.1 (by omega) hty.1
    · refine aw_tree (I1_ok X _) [(true, 49), (false, 24), (true, 20)] [15, 29] rfl ?_
      exact hQ f g h t1 t2 t3
set_option maxRecDepth 100000 in
theorem c_pstep5 {X : AX} (d : Nat) (sb ss : Nat) (T : TyT) (G : TyG) (L : TyL) (O : TyO) (R : TyR) (P : TyP) (C : TyC) (B D : TyB) (S N : TyS) (bm : AC24) (b0 b1 b2 b3 b4 : TyBn) (bt : List TyBn) (x : TyBn) (V : DP) (sx : Nat) {Q : AQ} (hV : kD V) (hP : rP P V) (hL : L.2.1 = dR V ∧ hlB L) (hb : okB V (b0 :: b1 :: b2 :: b3 :: b4 :: x :: bt)) (ht : tbs V (b0 :: b1 :: b2 :: b3 :: b4 :: x :: bt) 6)
    (hQ : ∀ f g h : FN, tR V 5 (bnT x f g h) 0 → tA V 5 (bnT x f g h) 0 → tH V 5 (bnT x f g h) 0 → AW X (d + 8) 0 0 26 15 [rf 17, rf 12, rf sx, iv (5 + -1)] [] (CH sb ss T G L O R P C B D S N (MV bm (BH 73 (b0 :: b1 :: b2 :: b3 :: b4 :: bnT x f g h :: bt)))) Q) :
    AW X (d + 8) 0 0 26 15 [rf 17, rf 12, rf sx, iv 5] [] (CH sb ss T G L O R P C B D S N (MV bm (BH 73 (b0 :: b1 :: b2 :: b3 :: b4 :: x :: bt)))) Q := by
  have hx0 := hb.2 5 x rfl
  have hlen : ((5 + 1 + bt.length : Nat) : Int) = dR V := by
    rw [← hb.1]
    simp only [List.length_cons]
    omega
  have hn := hV.1
  have hr6 := hV.2.2.2.2.1
  have hx : x.1 = 5 ∧ (0 ≤ x.2.1 ∧ x.2.1 ≤ 40) ∧ x.2.1 = dX V 5 ∧ (5 : Int) < dR V := ⟨hx0.1, hx0.2.1, hx0.2.2, by omega⟩
  have p7 := hP.2.2.2.2.2.2.1
  refine aw_tree (I1_ok X _) [(true, 49), (false, 24), (true, 24)] [15, 29] rfl ?_
  dsimp only
  repeat' (first | refine And.intro ?_ ?_ | (refine aImp_e0 ?_; intro _) | (refine aImp_n0 ?_; intro _) | (refine aImp_i ?_; intro _))
  all_goals (try (first | omega | exact bI_01 _ | exact bI_lo _ | exact bI_hi _ | exact bI_hi' _ | exact trivial | exact Or.inl rfl | exact Or.inr rfl | (exfalso; omega)))
  refine aw_cf0 (c_benchAt _ sb ss T G L O R P C B D S N (MV bm (BH 73 (b0 :: b1 :: b2 :: b3 :: b4 :: x :: bt))) 5 93 (by omega) (by omega) (hL.2 5 (by omega))) rfl ?_
  refine aw_tree (I1_ok X _) [(true, 49), (false, 24), (true, 24)] [15, 29] rfl ?_
  cases bt with
  | nil =>
    have hR : dR V = 5 + 1 := by simp only [List.length_nil] at hlen; omega
    refine aw_cf0 (c_benchAt_no _ sb ss T G L O R P C B D S N (MV bm (BH 73 (b0 :: b1 :: b2 :: b3 :: b4 :: x :: []))) (5 + 1) (by unfold inR; omega) (by omega) (by omega)) rfl ?_
    refine aw_tree (I1_ok X _) [(true, 49), (false, 24), (true, 24)] [15, 29] rfl ?_
    refine aw_ck0 (c_fillTables5 _ sb ss T G L O R P C B D S N bm b0 b1 b2 b3 b4 [] x V none hV hP hx (fun f g h i i0 i1 => ?_) (fun f g h t1 t2 t3 => ?_)) rfl
    · rw [VV_norow hV (dN V - i).toNat _ (5 + 1) 0 (by omega) (by omega), ← p7 i i0 (by omega)]
      exact c_pfN _ sb ss T G L O R P C B D S N (MV bm (BH 73 (b0 :: b1 :: b2 :: b3 :: b4 :: bnT x f g h :: []))) i (by omega)
    · refine aw_tree (I1_ok X _) [(true, 49), (false, 24), (true, 24)] [15, 29] rfl ?_
      exact hQ f g h t1 t2 t3
  | cons y bt =>
    exfalso
    simp only [List.length_cons] at hlen
    omega
set_option maxRecDepth 100000 in
theorem c_plan_loop {X : AX} (d : Nat) (sb ss : Nat) (T : TyT) (G : TyG) (L : TyL) (O : TyO) (R : TyR) (P : TyP) (C : TyC) (B D : TyB) (S N : TyS) (bm : AC24) (V : DP) (sx : Nat) (hd : List (Int × Int)) {Q : AQ} (hV : kD V) (hP : rP P V) (hL : L.2.1 = dR V ∧ hlB L)
    (hQ : ∀ β : List TyBn, okB V β → tbs V β 0 → hdB β = hd → AW X (d + 8) 0 0 26 29 [rf 17, rf 12, rf sx, iv (-1)] [] (CH sb ss T G L O R P C B D S N (MV bm (BH 73 β))) Q) :
    ∀ (m : Nat) (β : List TyBn), (m : Int) ≤ dR V → okB V β → tbs V β m → hdB β = hd → AW X (d + 8) 0 0 26 15 [rf 17, rf 12, rf sx, iv ((m : Int) - 1)] [] (CH sb ss T G L O R P C B D S N (MV bm (BH 73 β))) Q := by
  have hr6 := hV.2.2.2.2.1
  intro m
  induction m with
  | zero =>
    intro β hm hb ht hhd
    refine aw_tree (I1_ok X _) [(true, 49), (false, 24)] [15, 29] rfl ?_
    dsimp only
    repeat' (first | refine And.intro ?_ ?_ | (refine aImp_e0 ?_; intro _) | (refine aImp_n0 ?_; intro _) | (refine aImp_i ?_; intro _))
    all_goals (try (first | omega | exact bI_01 _ | exact bI_lo _ | exact bI_hi _ | exact bI_hi' _ | exact trivial | exact Or.inl rfl | exact Or.inr rfl | (exfalso; omega)))
    exact hQ β hb ht hhd
  | succ m ih =>
    intro β hm hb ht hhd
    have hl : m < β.length := by have := hb.1; omega
    have hm6 : m < 6 := by omega
    have e1 : ((m + 1 : Nat) : Int) - 1 = m := by omega
    rw [e1]
    obtain ⟨x, hx⟩ : ∃ x, β[m]? = some x := ⟨β[m], List.getElem?_eq_getElem hl⟩
    have goal := fun f g h (t1 : tR V m (bnT x f g h) 0) (t2 : tA V m (bnT x f g h) 0) (t3 : tH V m (bnT x f g h) 0) => ih (β.set m (bnT x f g h)) (by omega) (okB_set hb hx) (tbs_set ht hx t1 t2 t3) (by rw [hdB_set hx]; exact hhd)
    have hcases : m = 0 ∨ m = 1 ∨ m = 2 ∨ m = 3 ∨ m = 4 ∨ m = 5 := by omega
    rcases hcases with rfl | rfl | rfl | rfl | rfl | rfl
    · match β, hb, ht, hhd, hl, hx, goal with
      | x0 :: bt, hb, ht, hhd, hl, hx, goal =>
        cases hx
        exact c_pstep0 d sb ss T G L O R P C B D S N bm  bt x V sx hV hP hL hb ht (fun f g h t1 t2 t3 => goal f g h t1 t2 t3)
    · match β, hb, ht, hhd, hl, hx, goal with
      | b0 :: x0 :: bt, hb, ht, hhd, hl, hx, goal =>
        cases hx
        exact c_pstep1 d sb ss T G L O R P C B D S N bm b0 bt x V sx hV hP hL hb ht (fun f g h t1 t2 t3 => goal f g h t1 t2 t3)
    · match β, hb, ht, hhd, hl, hx, goal with
      | b0 :: b1 :: x0 :: bt, hb, ht, hhd, hl, hx, goal =>
        cases hx
        exact c_pstep2 d sb ss T G L O R P C B D S N bm b0 b1 bt x V sx hV hP hL hb ht (fun f g h t1 t2 t3 => goal f g h t1 t2 t3)
    · match β, hb, ht, hhd, hl, hx, goal with
      | b0 :: b1 :: b2 :: x0 :: bt, hb, ht, hhd, hl, hx, goal =>
        cases hx
        exact c_pstep3 d sb ss T G L O R P C B D S N bm b0 b1 b2 bt x V sx hV hP hL hb ht (fun f g h t1 t2 t3 => goal f g h t1 t2 t3)
    · match β, hb, ht, hhd, hl, hx, goal with
      | b0 :: b1 :: b2 :: b3 :: x0 :: bt, hb, ht, hhd, hl, hx, goal =>
        cases hx
        exact c_pstep4 d sb ss T G L O R P C B D S N bm b0 b1 b2 b3 bt x V sx hV hP hL hb ht (fun f g h t1 t2 t3 => goal f g h t1 t2 t3)
    · match β, hb, ht, hhd, hl, hx, goal with
      | b0 :: b1 :: b2 :: b3 :: b4 :: x0 :: bt, hb, ht, hhd, hl, hx, goal =>
        cases hx
        exact c_pstep5 d sb ss T G L O R P C B D S N bm b0 b1 b2 b3 b4 bt x V sx hV hP hL hb ht (fun f g h t1 t2 t3 => goal f g h t1 t2 t3)

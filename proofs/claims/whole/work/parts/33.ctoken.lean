/-! ===== the office's tokens ===== -/
theorem tk_none {tp : FN} {n q : Int} (h : q < n) (hw : 2 ≤ wl tp n q) (n0 : ¬ Wby tp n q) (n1 : ¬ Wle tp n q) (n2 : ¬ Wmo tp n q) (n3 : ¬ Wda tp n q) (n4 : ¬ Wag tp n q) (n5 : ¬ Wwo tp n q) (n6 : ¬ Wwi tp n q) (n7 : ¬ Wey tp n q) : tk tp n q = 19 := by
  rw [tk_w (by omega) (by omega) (by omega), cif_f n0, cif_f n1, cif_f n2, cif_f n3, cif_f n4, cif_f n5, cif_f n6, cif_f n7]
set_option maxRecDepth 100000 in
theorem c_wt_end {X : AX} (d : Nat) (sb ss : Nat) (T : TyT) (G : TyG) (L : TyL) (O : TyO) (fk fp due nx0 q im : Int) (P : TyP) (C : TyC) (B D : TyB) (S N : TyS) (t : AH) {Q : AQ} (tp : FN) (hn : 0 ≤ T.2 ∧ T.2 ≤ 200) (hrt : ∀ i, bAnd (T.1 i) 255 = tp i) (htp : ∀ i, 0 ≤ tp i ∧ tp i ≤ 255) (hq : 0 ≤ q ∧ q < T.2 ∧ nx0 ≤ T.2) (hl : ltr (tp q)) (hw : nx0 = q + wl tp T.2 q) (v : AV)
    (hQ : Q (some (iv (tk tp T.2 q))) (CH sb ss T G L O (fk, fp, due, nx0, q, im) P C B D S N t)) : AW X (d + 7) 0 0 50 18 [rf 16, rf 1, v] [] (CH sb ss T G L O (fk, fp, due, nx0, q, im) P C B D S N t) Q := by
  have hwl := wl_pos' (tp := tp) (n := T.2) (q := q) ⟨hq.2.1, hl⟩
  unfold ltr at hl
  refine aw_tree (I0_ok X _) [(true, 49)] [] rfl ?_
  refine aw_cf0 (c_byteT _ sb ss T G L O (fk, fp, due, nx0, q, im) P C B D S N t tp hn hrt htp q (by omega)) rfl ?_
  by_cases h1 : wl tp T.2 q = 1
  · have e := tk_1 (tp := tp) (n := T.2) (q := q) (by omega) h1
    by_cases h2 : tp q ≤ 104
    · rw [cif_t h2] at e
      rw [e] at hQ
      refine aw_tree (I0_ok X _) [(true, 49)] [39] rfl ?_
      dsimp only
      repeat' (first | refine And.intro ?_ ?_ | (refine aImp_e0 ?_; intro _) | (refine aImp_n0 ?_; intro _) | (refine aImp_i ?_; intro _))
      all_goals (try (first | omega | exact bI_01 _ | exact bI_lo _ | exact bI_hi _ | exact bI_hi' _ | exact trivial | exact Or.inl rfl | exact Or.inr rfl | (exfalso; omega)))
      exact hQ
    · rw [cif_f h2] at e
      rw [e] at hQ
      refine aw_tree (I0_ok X _) [(true, 49)] [39] rfl ?_
      dsimp only
      repeat' (first | refine And.intro ?_ ?_ | (refine aImp_e0 ?_; intro _) | (refine aImp_n0 ?_; intro _) | (refine aImp_i ?_; intro _))
      all_goals (try (first | omega | exact bI_01 _ | exact bI_lo _ | exact bI_hi _ | exact bI_hi' _ | exact trivial | exact Or.inl rfl | exact Or.inr rfl | (exfalso; omega)))
      exact hQ
  · refine aw_tree (I0_ok X _) [(true, 49)] [39] rfl ?_
    dsimp only
    repeat' (first | refine And.intro ?_ ?_ | (refine aImp_e0 ?_; intro _) | (refine aImp_n0 ?_; intro _) | (refine aImp_i ?_; intro _))
    all_goals (try (first | omega | exact bI_01 _ | exact bI_lo _ | exact bI_hi _ | exact bI_hi' _ | exact trivial | exact Or.inl rfl | exact Or.inr rfl | (exfalso; omega)))
    by_cases c1 : tp q = 98 ∨ tp q = 108 ∨ tp q = 109 ∨ tp q = 100 ∨ tp q = 97 ∨ tp q = 119 ∨ tp q = 101
    · rcases c1 with c1 | c1 | c1 | c1 | c1 | c1 | c1
      · refine aw_tree (I0_ok X _) [(true, 49)] [] rfl ?_
        dsimp only
        repeat' (first | refine And.intro ?_ ?_ | (refine aImp_e0 ?_; intro _) | (refine aImp_n0 ?_; intro _) | (refine aImp_i ?_; intro _))
        all_goals (try (first | omega | exact bI_01 _ | exact bI_lo _ | exact bI_hi _ | exact bI_hi' _ | exact trivial | exact Or.inl rfl | exact Or.inr rfl | (exfalso; omega)))
        refine aw_ck0 (c_isWord_by _ sb ss T G L O fk fp due nx0 q im P C B D S N t tp hn hrt htp (by omega) hw (fun hy => ?_) (fun hno => ?_)) rfl
        · rw [tk_Wby hy] at hQ
          refine aw_tree (I0_ok X _) [(true, 49)] [] rfl ?_
          dsimp only
          repeat' (first | refine And.intro ?_ ?_ | (refine aImp_e0 ?_; intro _) | (refine aImp_n0 ?_; intro _) | (refine aImp_i ?_; intro _))
          all_goals (try (first | omega | exact bI_01 _ | exact bI_lo _ | exact bI_hi _ | exact bI_hi' _ | exact trivial | exact Or.inl rfl | exact Or.inr rfl | (exfalso; omega)))
          exact hQ
        · rw [tk_none hq.2.1 (by omega) hno (fun k => by unfold Wle at k; omega) (fun k => by unfold Wmo at k; omega) (fun k => by unfold Wda at k; omega) (fun k => by unfold Wag at k; omega) (fun k => by unfold Wwo at k; omega) (fun k => by unfold Wwi at k; omega) (fun k => by unfold Wey at k; omega)] at hQ
          refine aw_tree (I0_ok X _) [(true, 49)] [] rfl ?_
          dsimp only
          repeat' (first | refine And.intro ?_ ?_ | (refine aImp_e0 ?_; intro _) | (refine aImp_n0 ?_; intro _) | (refine aImp_i ?_; intro _))
          all_goals (try (first | omega | exact bI_01 _ | exact bI_lo _ | exact bI_hi _ | exact bI_hi' _ | exact trivial | exact Or.inl rfl | exact Or.inr rfl | (exfalso; omega)))
          exact hQ
      · refine aw_tree (I0_ok X _) [(true, 49)] [] rfl ?_
        dsimp only
        repeat' (first | refine And.intro ?_ ?_ | (refine aImp_e0 ?_; intro _) | (refine aImp_n0 ?_; intro _) | (refine aImp_i ?_; intro _))
        all_goals (try (first | omega | exact bI_01 _ | exact bI_lo _ | exact bI_hi _ | exact bI_hi' _ | exact trivial | exact Or.inl rfl | exact Or.inr rfl | (exfalso; omega)))
        refine aw_ck0 (c_isWord_le _ sb ss T G L O fk fp due nx0 q im P C B D S N t tp hn hrt htp (by omega) hw (fun hy => ?_) (fun hno => ?_)) rfl
        · rw [tk_Wle hy] at hQ
          refine aw_tree (I0_ok X _) [(true, 49)] [] rfl ?_
          dsimp only
          repeat' (first | refine And.intro ?_ ?_ | (refine aImp_e0 ?_; intro _) | (refine aImp_n0 ?_; intro _) | (refine aImp_i ?_; intro _))
          all_goals (try (first | omega | exact bI_01 _ | exact bI_lo _ | exact bI_hi _ | exact bI_hi' _ | exact trivial | exact Or.inl rfl | exact Or.inr rfl | (exfalso; omega)))
          exact hQ
        · rw [tk_none hq.2.1 (by omega) (fun k => by unfold Wby at k; omega) hno (fun k => by unfold Wmo at k; omega) (fun k => by unfold Wda at k; omega) (fun k => by unfold Wag at k; omega) (fun k => by unfold Wwo at k; omega) (fun k => by unfold Wwi at k; omega) (fun k => by unfold Wey at k; omega)] at hQ
          refine aw_tree (I0_ok X _) [(true, 49)] [] rfl ?_
          dsimp only
          repeat' (first | refine And.intro ?_ ?_ | (refine aImp_e0 ?_; intro _) | (refine aImp_n0 ?_; intro _) | (refine aImp_i ?_; intro _))
          all_goals (try (first | omega | exact bI_01 _ | exact bI_lo _ | exact bI_hi _ | exact bI_hi' _ | exact trivial | exact Or.inl rfl | exact Or.inr rfl | (exfalso; omega)))
          exact hQ
      · refine aw_tree (I0_ok X _) [(true, 49)] [] rfl ?_
        dsimp only
        repeat' (first | refine And.intro ?_ ?_ | (refine aImp_e0 ?_; intro _) | (refine aImp_n0 ?_; intro _) | (refine aImp_i ?_; intro _))
        all_goals (try (first | omega | exact bI_01 _ | exact bI_lo _ | exact bI_hi _ | exact bI_hi' _ | exact trivial | exact Or.inl rfl | exact Or.inr rfl | (exfalso; omega)))
        refine aw_ck0 (c_isWord_mo _ sb ss T G L O fk fp due nx0 q im P C B D S N t tp hn hrt htp (by omega) hw (fun hy => ?_) (fun hno => ?_)) rfl
        · rw [tk_Wmo hy] at hQ
          refine aw_tree (I0_ok X _) [(true, 49)] [] rfl ?_
          dsimp only
          repeat' (first | refine And.intro ?_ ?_ | (refine aImp_e0 ?_; intro _) | (refine aImp_n0 ?_; intro _) | (refine aImp_i ?_; intro _))
          all_goals (try (first | omega | exact bI_01 _ | exact bI_lo _ | exact bI_hi _ | exact bI_hi' _ | exact trivial | exact Or.inl rfl | exact Or.inr rfl | (exfalso; omega)))
          exact hQ
        · rw [tk_none hq.2.1 (by omega) (fun k => by unfold Wby at k; omega) (fun k => by unfold Wle at k; omega) hno (fun k => by unfold Wda at k; omega) (fun k => by unfold Wag at k; omega) (fun k => by unfold Wwo at k; omega) (fun k => by unfold Wwi at k; omega) (fun k => by unfold Wey at k; omega)] at hQ
          refine aw_tree (I0_ok X _) [(true, 49)] [] rfl ?_
          dsimp only
          repeat' (first | refine And.intro ?_ ?_ | (refine aImp_e0 ?_; intro _) | (refine aImp_n0 ?_; intro _) | (refine aImp_i ?_; intro _))
          all_goals (try (first | omega | exact bI_01 _ | exact bI_lo _ | exact bI_hi _ | exact bI_hi' _ | exact trivial | exact Or.inl rfl | exact Or.inr rfl | (exfalso; omega)))
          exact hQ
      · refine aw_tree (I0_ok X _) [(true, 49)] [] rfl ?_
        dsimp only
        repeat' (first | refine And.intro ?_ ?_ | (refine aImp_e0 ?_; intro _) | (refine aImp_n0 ?_; intro _) | (refine aImp_i ?_; intro _))
        all_goals (try (first | omega | exact bI_01 _ | exact bI_lo _ | exact bI_hi _ | exact bI_hi' _ | exact trivial | exact Or.inl rfl | exact Or.inr rfl | (exfalso; omega)))
        refine aw_ck0 (c_isWord_da _ sb ss T G L O fk fp due nx0 q im P C B D S N t tp hn hrt htp (by omega) hw (fun hy => ?_) (fun hno => ?_)) rfl
        · rw [tk_Wda hy] at hQ
          refine aw_tree (I0_ok X _) [(true, 49)] [] rfl ?_
          dsimp only
          repeat' (first | refine And.intro ?_ ?_ | (refine aImp_e0 ?_; intro _) | (refine aImp_n0 ?_; intro _) | (refine aImp_i ?_; intro _))
          all_goals (try (first | omega | exact bI_01 _ | exact bI_lo _ | exact bI_hi _ | exact bI_hi' _ | exact trivial | exact Or.inl rfl | exact Or.inr rfl | (exfalso; omega)))
          exact hQ
        · rw [tk_none hq.2.1 (by omega) (fun k => by unfold Wby at k; omega) (fun k => by unfold Wle at k; omega) (fun k => by unfold Wmo at k; omega) hno (fun k => by unfold Wag at k; omega) (fun k => by unfold Wwo at k; omega) (fun k => by unfold Wwi at k; omega) (fun k => by unfold Wey at k; omega)] at hQ
          refine aw_tree (I0_ok X _) [(true, 49)] [] rfl ?_
          dsimp only
          repeat' (first | refine And.intro ?_ ?_ | (refine aImp_e0 ?_; intro _) | (refine aImp_n0 ?_; intro _) | (refine aImp_i ?_; intro _))
          all_goals (try (first | omega | exact bI_01 _ | exact bI_lo _ | exact bI_hi _ | exact bI_hi' _ | exact trivial | exact Or.inl rfl | exact Or.inr rfl | (exfalso; omega)))
          exact hQ
      · refine aw_tree (I0_ok X _) [(true, 49)] [] rfl ?_
        dsimp only
        repeat' (first | refine And.intro ?_ ?_ | (refine aImp_e0 ?_; intro _) | (refine aImp_n0 ?_; intro _) | (refine aImp_i ?_; intro _))
        all_goals (try (first | omega | exact bI_01 _ | exact bI_lo _ | exact bI_hi _ | exact bI_hi' _ | exact trivial | exact Or.inl rfl | exact Or.inr rfl | (exfalso; omega)))
        refine aw_ck0 (c_isWord_ag _ sb ss T G L O fk fp due nx0 q im P C B D S N t tp hn hrt htp (by omega) hw (fun hy => ?_) (fun hno => ?_)) rfl
        · rw [tk_Wag hy] at hQ
          refine aw_tree (I0_ok X _) [(true, 49)] [] rfl ?_
          dsimp only
          repeat' (first | refine And.intro ?_ ?_ | (refine aImp_e0 ?_; intro _) | (refine aImp_n0 ?_; intro _) | (refine aImp_i ?_; intro _))
          all_goals (try (first | omega | exact bI_01 _ | exact bI_lo _ | exact bI_hi _ | exact bI_hi' _ | exact trivial | exact Or.inl rfl | exact Or.inr rfl | (exfalso; omega)))
          exact hQ
        · rw [tk_none hq.2.1 (by omega) (fun k => by unfold Wby at k; omega) (fun k => by unfold Wle at k; omega) (fun k => by unfold Wmo at k; omega) (fun k => by unfold Wda at k; omega) hno (fun k => by unfold Wwo at k; omega) (fun k => by unfold Wwi at k; omega) (fun k => by unfold Wey at k; omega)] at hQ
          refine aw_tree (I0_ok X _) [(true, 49)] [] rfl ?_
          dsimp only
          repeat' (first | refine And.intro ?_ ?_ | (refine aImp_e0 ?_; intro _) | (refine aImp_n0 ?_; intro _) | (refine aImp_i ?_; intro _))
          all_goals (try (first | omega | exact bI_01 _ | exact bI_lo _ | exact bI_hi _ | exact bI_hi' _ | exact trivial | exact Or.inl rfl | exact Or.inr rfl | (exfalso; omega)))
          exact hQ
      · refine aw_tree (I0_ok X _) [(true, 49)] [] rfl ?_
        dsimp only
        repeat' (first | refine And.intro ?_ ?_ | (refine aImp_e0 ?_; intro _) | (refine aImp_n0 ?_; intro _) | (refine aImp_i ?_; intro _))
        all_goals (try (first | omega | exact bI_01 _ | exact bI_lo _ | exact bI_hi _ | exact bI_hi' _ | exact trivial | exact Or.inl rfl | exact Or.inr rfl | (exfalso; omega)))
        refine aw_ck0 (c_isWord_wo _ sb ss T G L O fk fp due nx0 q im P C B D S N t tp hn hrt htp (by omega) hw (fun hy => ?_) (fun hno => ?_)) rfl
        · rw [tk_Wwo hy] at hQ
          refine aw_tree (I0_ok X _) [(true, 49)] [] rfl ?_
          dsimp only
          repeat' (first | refine And.intro ?_ ?_ | (refine aImp_e0 ?_; intro _) | (refine aImp_n0 ?_; intro _) | (refine aImp_i ?_; intro _))
          all_goals (try (first | omega | exact bI_01 _ | exact bI_lo _ | exact bI_hi _ | exact bI_hi' _ | exact trivial | exact Or.inl rfl | exact Or.inr rfl | (exfalso; omega)))
          exact hQ
        · refine aw_tree (I0_ok X _) [(true, 49)] [] rfl ?_
          dsimp only
          repeat' (first | refine And.intro ?_ ?_ | (refine aImp_e0 ?_; intro _) | (refine aImp_n0 ?_; intro _) | (refine aImp_i ?_; intro _))
          all_goals (try (first | omega | exact bI_01 _ | exact bI_lo _ | exact bI_hi _ | exact bI_hi' _ | exact trivial | exact Or.inl rfl | exact Or.inr rfl | (exfalso; omega)))
          refine aw_ck0 (c_isWord_wi _ sb ss T G L O fk fp due nx0 q im P C B D S N t tp hn hrt htp (by omega) hw (fun hy => ?_) (fun hno2 => ?_)) rfl
          · rw [tk_Wwi hy] at hQ
            refine aw_tree (I0_ok X _) [(true, 49)] [] rfl ?_
            dsimp only
            repeat' (first | refine And.intro ?_ ?_ | (refine aImp_e0 ?_; intro _) | (refine aImp_n0 ?_; intro _) | (refine aImp_i ?_; intro _))
            all_goals (try (first | omega | exact bI_01 _ | exact bI_lo _ | exact bI_hi _ | exact bI_hi' _ | exact trivial | exact Or.inl rfl | exact Or.inr rfl | (exfalso; omega)))
            exact hQ
          · rw [tk_none hq.2.1 (by omega) (fun k => by unfold Wby at k; omega) (fun k => by unfold Wle at k; omega) (fun k => by unfold Wmo at k; omega) (fun k => by unfold Wda at k; omega) (fun k => by unfold Wag at k; omega) hno hno2 (fun k => by unfold Wey at k; omega)] at hQ
            refine aw_tree (I0_ok X _) [(true, 49)] [] rfl ?_
            dsimp only
            repeat' (first | refine And.intro ?_ ?_ | (refine aImp_e0 ?_; intro _) | (refine aImp_n0 ?_; intro _) | (refine aImp_i ?_; intro _))
            all_goals (try (first | omega | exact bI_01 _ | exact bI_lo _ | exact bI_hi _ | exact bI_hi' _ | exact trivial | exact Or.inl rfl | exact Or.inr rfl | (exfalso; omega)))
            exact hQ
      · refine aw_tree (I0_ok X _) [(true, 49)] [] rfl ?_
        dsimp only
        repeat' (first | refine And.intro ?_ ?_ | (refine aImp_e0 ?_; intro _) | (refine aImp_n0 ?_; intro _) | (refine aImp_i ?_; intro _))
        all_goals (try (first | omega | exact bI_01 _ | exact bI_lo _ | exact bI_hi _ | exact bI_hi' _ | exact trivial | exact Or.inl rfl | exact Or.inr rfl | (exfalso; omega)))
        refine aw_ck0 (c_isWord_ey _ sb ss T G L O fk fp due nx0 q im P C B D S N t tp hn hrt htp (by omega) hw (fun hy => ?_) (fun hno => ?_)) rfl
        · rw [tk_Wey hy] at hQ
          refine aw_tree (I0_ok X _) [(true, 49)] [] rfl ?_
          dsimp only
          repeat' (first | refine And.intro ?_ ?_ | (refine aImp_e0 ?_; intro _) | (refine aImp_n0 ?_; intro _) | (refine aImp_i ?_; intro _))
          all_goals (try (first | omega | exact bI_01 _ | exact bI_lo _ | exact bI_hi _ | exact bI_hi' _ | exact trivial | exact Or.inl rfl | exact Or.inr rfl | (exfalso; omega)))
          exact hQ
        · rw [tk_none hq.2.1 (by omega) (fun k => by unfold Wby at k; omega) (fun k => by unfold Wle at k; omega) (fun k => by unfold Wmo at k; omega) (fun k => by unfold Wda at k; omega) (fun k => by unfold Wag at k; omega) (fun k => by unfold Wwo at k; omega) (fun k => by unfold Wwi at k; omega) hno] at hQ
          refine aw_tree (I0_ok X _) [(true, 49)] [] rfl ?_
          dsimp only
          repeat' (first | refine And.intro ?_ ?_ | (refine aImp_e0 ?_; intro _) | (refine aImp_n0 ?_; intro _) | (refine aImp_i ?_; intro _))
          all_goals (try (first | omega | exact bI_01 _ | exact bI_lo _ | exact bI_hi _ | exact bI_hi' _ | exact trivial | exact Or.inl rfl | exact Or.inr rfl | (exfalso; omega)))
          exact hQ
    · rw [tk_none hq.2.1 (by omega) (fun k => by unfold Wby at k; omega) (fun k => by unfold Wle at k; omega) (fun k => by unfold Wmo at k; omega) (fun k => by unfold Wda at k; omega) (fun k => by unfold Wag at k; omega) (fun k => by unfold Wwo at k; omega) (fun k => by unfold Wwi at k; omega) (fun k => by unfold Wey at k; omega)] at hQ
      refine aw_tree (I0_ok X _) [(true, 49)] [] rfl ?_
      dsimp only
      repeat' (first | refine And.intro ?_ ?_ | (refine aImp_e0 ?_; intro _) | (refine aImp_n0 ?_; intro _) | (refine aImp_i ?_; intro _))
      all_goals (try (first | omega | exact bI_01 _ | exact bI_lo _ | exact bI_hi _ | exact bI_hi' _ | exact trivial | exact Or.inl rfl | exact Or.inr rfl | (exfalso; omega)))
      all_goals exact hQ
theorem c_wt_loop {X : AX} (d : Nat) (sb ss : Nat) (T : TyT) (G : TyG) (L : TyL) (O : TyO) (fk fp due q im : Int) (P : TyP) (C : TyC) (B D : TyB) (S N : TyS) (t : AH) {Q : AQ} (tp : FN) (hn : 0 ≤ T.2 ∧ T.2 ≤ 200) (hrt : ∀ i, bAnd (T.1 i) 255 = tp i) (htp : ∀ i, 0 ≤ tp i ∧ tp i ≤ 255) (hq : 0 ≤ q ∧ q < T.2) (hl : ltr (tp q))
    (hQ : Q (some (iv (tk tp T.2 q))) (CH sb ss T G L O (fk, fp, due, q + wl tp T.2 q, q, im) P C B D S N t)) :
    ∀ (m : Nat) (p : Int), q ≤ p → p ≤ T.2 → (T.2 - p).toNat = m → p + wl tp T.2 p = q + wl tp T.2 q → AW X (d + 7) 0 0 50 0 [rf 16, rf 1, jk] [] (CH sb ss T G L O (fk, fp, due, p, q, im) P C B D S N t) Q := by
  have hw2 := (wl_ok (tp := tp) (n := T.2) _ q rfl).2.1 (by omega)
  intro m
  induction m with
  | zero =>
    intro p p0 pn hm hk
    have h0 : wl tp T.2 p = 0 := wl_stop (fun h => by omega)
    have e : p = q + wl tp T.2 q := by omega
    rw [← e] at hQ
    refine aw_tree (I0_ok X _) [(true, 49)] [0, 18] rfl ?_
    dsimp only
    repeat' (first | refine And.intro ?_ ?_ | (refine aImp_e0 ?_; intro _) | (refine aImp_n0 ?_; intro _) | (refine aImp_i ?_; intro _))
    all_goals (try (first | omega | exact bI_01 _ | exact bI_lo _ | exact bI_hi _ | exact bI_hi' _ | exact trivial | exact Or.inl rfl | exact Or.inr rfl | (exfalso; omega)))
    exact c_wt_end d sb ss T G L O fk fp due p q im P C B D S N t tp hn hrt htp (by omega) hl e jk hQ
  | succ m ih =>
    intro p p0 pn hm hk
    have ht := htp p
    refine aw_tree (I0_ok X _) [(true, 49)] [0, 18] rfl ?_
    dsimp only
    repeat' (first | refine And.intro ?_ ?_ | (refine aImp_e0 ?_; intro _) | (refine aImp_n0 ?_; intro _) | (refine aImp_i ?_; intro _))
    all_goals (try (first | omega | exact bI_01 _ | exact bI_lo _ | exact bI_hi _ | exact bI_hi' _ | exact trivial | exact Or.inl rfl | exact Or.inr rfl | (exfalso; omega)))
    refine aw_cf0 (c_byteT _ sb ss T G L O (fk, fp, due, p, q, im) P C B D S N t tp hn hrt htp p (by omega)) rfl ?_
    refine aw_tree (I0_ok X _) [(true, 49)] [0, 18] rfl ?_
    refine aw_cf0 (c_isWordByte _ _ (tp p) (by unfold inR; omega)) rfl ?_
    by_cases hb : ltr (tp p)
    · have hk' := wl_step (tp := tp) (n := T.2) (q := p) (by omega) hb
      unfold ltr at hb
      refine aw_tree (I0_ok X _) [(true, 49)] [0, 18] rfl ?_
      dsimp only
      repeat' (first | refine And.intro ?_ ?_ | (refine aImp_e0 ?_; intro _) | (refine aImp_n0 ?_; intro _) | (refine aImp_i ?_; intro _))
      all_goals (try (first | omega | exact bI_01 _ | exact bI_lo _ | exact bI_hi _ | exact bI_hi' _ | exact trivial | exact Or.inl rfl | exact Or.inr rfl | (exfalso; omega)))
      exact ih (p + 1) (by omega) (by omega) (by omega) (by omega)
    · have h0 : wl tp T.2 p = 0 := wl_stop (fun h => hb h.2)
      have e : p = q + wl tp T.2 q := by omega
      rw [← e] at hQ
      unfold ltr at hb
      refine aw_tree (I0_ok X _) [(true, 49)] [0, 18] rfl ?_
      dsimp only
      repeat' (first | refine And.intro ?_ ?_ | (refine aImp_e0 ?_; intro _) | (refine aImp_n0 ?_; intro _) | (refine aImp_i ?_; intro _))
      all_goals (try (first | omega | exact bI_01 _ | exact bI_lo _ | exact bI_hi _ | exact bI_hi' _ | exact trivial | exact Or.inl rfl | exact Or.inr rfl | (exfalso; omega)))
      exact c_wt_end d sb ss T G L O fk fp due p q im P C B D S N t tp hn hrt htp (by omega) hl e jk hQ
theorem c_nextToken {X : AX} (d : Nat) (sb ss : Nat) (T : TyT) (G : TyG) (L : TyL) (O : TyO) (fk fp due nx0 q im : Int) (P : TyP) (C : TyC) (B D : TyB) (S N : TyS) (t : AH) (tp : FN) (hn : 0 ≤ T.2 ∧ T.2 ≤ 200) (hrt : ∀ i, bAnd (T.1 i) 255 = tp i) (htp : ∀ i, 0 ≤ tp i ∧ tp i ≤ 255) (hp : 0 ≤ nx0 ∧ nx0 ≤ T.2) :
    AF X (d + 8) 0 0 48 [rf 16, rf 1] (CH sb ss T G L O (fk, fp, due, nx0, q, im) P C B D S N t) (some (iv (tk tp T.2 (sk tp T.2 nx0)))) (CH sb ss T G L O (fk, fp, due, nx tp T.2 (sk tp T.2 nx0), sk tp T.2 nx0, im) P C B D S N t) := by
  obtain ⟨k1, k2, k3⟩ := sk_ok (tp := tp) (n := T.2) _ nx0 rfl
  have k2' := k2 hp.2
  refine aw_tree (I0_ok X _) [(true, 49)] [] rfl ?_
  refine aw_cf0 (c_skip _ sb ss T G L O fk fp due nx0 q im P C B D S N t tp hn hrt htp hp) rfl ?_
  generalize sk tp T.2 nx0 = p at *
  have ht := htp p
  refine aw_tree (I0_ok X _) [(true, 49)] [] rfl ?_
  dsimp only
  repeat' (first | refine And.intro ?_ ?_ | (refine aImp_e0 ?_; intro _) | (refine aImp_n0 ?_; intro _) | (refine aImp_i ?_; intro _))
  all_goals (try (first | omega | exact bI_01 _ | exact bI_lo _ | exact bI_hi _ | exact bI_hi' _ | exact trivial | exact Or.inl rfl | exact Or.inr rfl | (exfalso; omega)))
  · refine aw_cf0 (c_byteT _ sb ss T G L O (fk, fp, due, p, p, im) P C B D S N t tp hn hrt htp p (by omega)) rfl ?_
    refine aw_tree (I0_ok X _) [(true, 49)] [] rfl ?_
    refine aw_cf0 (c_isWordByte _ _ (tp p) (by unfold inR; omega)) rfl ?_
    by_cases hb : ltr (tp p)
    · have hw := wl_pos' (tp := tp) (n := T.2) (q := p) ⟨by omega, hb⟩
      have en := nx_w (tp := tp) (n := T.2) (q := p) (by omega)
      have hb' := hb
      unfold ltr at hb'
      refine aw_tree (I0_ok X _) [(true, 49)] [] rfl ?_
      dsimp only
      repeat' (first | refine And.intro ?_ ?_ | (refine aImp_e0 ?_; intro _) | (refine aImp_n0 ?_; intro _) | (refine aImp_i ?_; intro _))
      all_goals (try (first | omega | exact bI_01 _ | exact bI_lo _ | exact bI_hi _ | exact bI_hi' _ | exact trivial | exact Or.inl rfl | exact Or.inr rfl | (exfalso; omega)))
      refine aw_ck0 (c_wt_loop d sb ss T G L O fk fp due p im P C B D S N t tp hn hrt htp (by omega) hb ?_ _ p (by omega) (by omega) rfl rfl) rfl
      rw [← en]
      refine aw_tree (I0_ok X _) [(true, 49)] [] rfl ?_
      exact ⟨rfl, rfl⟩
    · have h0 : wl tp T.2 p = 0 := wl_stop (fun h => hb h.2)
      have en := nx_c (tp := tp) (n := T.2) (q := p) (by omega) h0
      have et := tk_ch (tp := tp) (n := T.2) (q := p) (by omega) h0
      rw [en, et]
      unfold ltr at hb
      refine aw_tree (I0_ok X _) [(true, 49)] [] rfl ?_
      dsimp only
      repeat' (first | refine And.intro ?_ ?_ | (refine aImp_e0 ?_; intro _) | (refine aImp_n0 ?_; intro _) | (refine aImp_i ?_; intro _))
      all_goals (try (first | omega | exact bI_01 _ | exact bI_lo _ | exact bI_hi _ | exact bI_hi' _ | exact trivial | exact Or.inl rfl | exact Or.inr rfl | (exfalso; omega)))
      refine aw_cf0 (c_byteT _ sb ss T G L O (fk, fp, due, (p + 1), p, im) P C B D S N t tp hn hrt htp p (by omega)) rfl ?_
      refine aw_tree (I0_ok X _) [(true, 49)] [] rfl ?_
      dsimp only
      repeat' (first | refine And.intro ?_ ?_ | (refine aImp_e0 ?_; intro _) | (refine aImp_n0 ?_; intro _) | (refine aImp_i ?_; intro _))
      all_goals (try (first | omega | exact bI_01 _ | exact bI_lo _ | exact bI_hi _ | exact bI_hi' _ | exact trivial | exact Or.inl rfl | exact Or.inr rfl | (exfalso; omega)))
      all_goals first | rfl | rw [cif_t (by omega)] | rw [cif_f (by omega), cif_t (by omega)] | rw [cif_f (by omega), cif_f (by omega)]
  · rw [tk_end (by omega)]
  · have e : nx tp T.2 p = p := by unfold nx; exact cif_t (by omega) _ _
    rw [e]
    rfl

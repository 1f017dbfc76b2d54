/-- the least clear stage -/
noncomputable def lcC (mR : TyMR) (S : TyS) (G : TyG) (g : Int) : Nat → Int
  | 0 => 0
  | k + 1 => cif (bfC S G (S.2.2.1 k) g) (max (lcC mR S G g k) (clC mR S G (S.2.2.1 k) g)) (lcC mR S G g k)
theorem lcC_r {mR : TyMR} {S : TyS} {G : TyG} {g : Int} (hR : kR mR) (hS : kL S) (hG : kW G) (hl : lnR S mR.2.2.2.1) (hg : 0 ≤ g ∧ g < 32) (h1 : S.1 g < mR.2.2.2.1) : ∀ (k : Nat), (k : Int) ≤ S.2.2.2.1 → 0 ≤ lcC mR S G g k ∧ lcC mR S G g k ≤ 400000 := by
  intro k
  induction k with
  | zero => intro _; rw [lcC]; omega
  | succ k ih =>
    intro hk
    have i1 := ih (by push_cast at hk; omega)
    have hlk := hS.2.1 k (by omega) (by push_cast at hk; omega)
    have hl2 := hl k (by omega) (by push_cast at hk; omega)
    rw [lcC]
    by_cases hb : bfC S G (S.2.2.1 k) g
    · rw [cif_t hb]
      have hlt : S.1 (S.2.2.1 k) < S.1 g := hb.1
      have hov := ovC_r (S := S) (h := S.2.2.1 k) (g := g) hR hG hlk hg ⟨hl2.1, by omega⟩ ⟨by omega, h1⟩
      have hcl := clC_r (far_lt' hR hl2.1 hlt h1) hov
      omega
    · rw [cif_f hb]; exact i1
theorem lcC_le {mR : TyMR} {S : TyS} {G : TyG} {g x : Int} (hx : 0 ≤ x) : ∀ (k : Nat), lcC mR S G g k ≤ x ↔ ∀ i : Nat, i < k → bfC S G (S.2.2.1 i) g → clC mR S G (S.2.2.1 i) g ≤ x := by
  intro k
  induction k with
  | zero =>
    rw [lcC]
    exact ⟨fun _ i hi => by omega, fun _ => hx⟩
  | succ k ih =>
    rw [lcC]
    by_cases hb : bfC S G (S.2.2.1 k) g
    · rw [cif_t hb]
      constructor
      · intro h i hi hbi
        by_cases e : i = k
        · rw [e]; omega
        · exact ih.mp (by omega) i (by omega) hbi
      · intro h
        have a1 := ih.mpr (fun i hi hbi => h i (by omega) hbi)
        have a2 := h k (by omega) hb
        omega
    · rw [cif_f hb, ih]
      constructor
      · intro h i hi hbi
        by_cases e : i = k
        · exact absurd (e ▸ hbi) hb
        · exact h i (by omega) hbi
      · intro h i hi hbi
        exact h i (by omega) hbi
noncomputable def snC (mR : TyMR) (S : TyS) (G : TyG) (i : Int) : Int := bI (smN (fun j => bI (hdC mR S G (S.2.2.1 j) (S.2.2.1 i))) S.2.2.2.1.toNat = 0)
theorem c_cs_loop0 {X : AX} (d : Nat) (sb ss : Nat) (T : TyT) (G : TyG) (L : TyL) (O : TyO) (R : TyR) (P : TyP) (C : TyC) (B D : TyB) (S N : TyS) (bm : AC24) (β : List TyBn) (mR : TyMR) {Q : AQ} (hS : kL S) (hG : kW G) (hH : rH L β mR) (hl : lnR S mR.2.2.2.1)
    (hQ : Q (some (iv (smN (snC mR S G) S.2.2.2.1.toNat))) (CH sb ss T G L O R P C B D S N (MV bm (BH 73 β)))) :
    ∀ (m k : Nat), k + m = S.2.2.2.1.toNat → AW X (d + 7) 0 0 69 4 [rf 41, rf 3, rf 12, iv (smN (snC mR S G) k), iv k] [] (CH sb ss T G L O R P C B D S N (MV bm (BH 73 β))) Q := by
  have hm := hS.1
  intro m
  induction m with
  | zero =>
    intro k hk
    have e : k = S.2.2.2.1.toNat := by omega
    rw [← e] at hQ
    refine aw_tree (I0_ok X _) [(true, 49)] [4] rfl ?_
    repeat' (first | refine And.intro ?_ ?_ | (refine aImp_e0 ?_; intro _) | (refine aImp_n0 ?_; intro _) | (refine aImp_i ?_; intro _))
    all_goals (try (first | omega | exact bI_01 _ | exact bI_lo _ | exact bI_hi _ | exact bI_hi' _ | exact trivial | exact Or.inl rfl | exact Or.inr rfl | (exfalso; omega)))
    exact hQ
  | succ m ih =>
    intro k hk
    have goal := ih (k + 1) (by omega)
    rw [smN] at goal
    unfold snC at goal
    have hlk := hS.2.1 k (by omega) (by omega)
    have h01 := smN_01 (e := fun j => bI (hdC mR S G (S.2.2.1 j) (S.2.2.1 k))) (fun _ => bI_r _) S.2.2.2.1.toNat
    refine aw_tree (I0_ok X _) [(true, 49)] [4] rfl ?_
    repeat' (first | refine And.intro ?_ ?_ | (refine aImp_e0 ?_; intro _) | (refine aImp_n0 ?_; intro _) | (refine aImp_i ?_; intro _))
    all_goals (try (first | omega | exact bI_01 _ | exact bI_lo _ | exact bI_hi _ | exact bI_hi' _ | exact trivial | exact Or.inl rfl | exact Or.inr rfl | (exfalso; omega)))
    refine aw_cf0 (c_countHiders0 _ sb ss T G L O R P C B D S N bm β mR (S.2.2.1 k) hS hG hH hl hlk (hl k (by omega) (by omega)).2) rfl ?_
    by_cases q : smN (fun j => bI (hdC mR S G (S.2.2.1 j) (S.2.2.1 k))) S.2.2.2.1.toNat = 0
    · rw [bI_t q] at goal
      refine aw_tree (I0_ok X _) [(true, 49)] [4] rfl ?_
      repeat' (first | refine And.intro ?_ ?_ | (refine aImp_e0 ?_; intro _) | (refine aImp_n0 ?_; intro _) | (refine aImp_i ?_; intro _))
      all_goals (try (first | omega | exact bI_01 _ | exact bI_lo _ | exact bI_hi _ | exact bI_hi' _ | exact trivial | exact Or.inl rfl | exact Or.inr rfl | (exfalso; omega)))
      exact goal
    · rw [bI_f q, Int.add_zero] at goal
      refine aw_tree (I0_ok X _) [(true, 49)] [4] rfl ?_
      repeat' (first | refine And.intro ?_ ?_ | (refine aImp_e0 ?_; intro _) | (refine aImp_n0 ?_; intro _) | (refine aImp_i ?_; intro _))
      all_goals (try (first | omega | exact bI_01 _ | exact bI_lo _ | exact bI_hi _ | exact bI_hi' _ | exact trivial | exact Or.inl rfl | exact Or.inr rfl | (exfalso; omega)))
      exact goal
theorem c_countSeeing0 {X : AX} (d : Nat) (sb ss : Nat) (T : TyT) (G : TyG) (L : TyL) (O : TyO) (R : TyR) (P : TyP) (C : TyC) (B D : TyB) (S N : TyS) (bm : AC24) (β : List TyBn) (mR : TyMR) (hS : kL S) (hG : kW G) (hH : rH L β mR) (hl : lnR S mR.2.2.2.1) :
    AF X (d + 7) 0 0 69 [rf 41, rf 3, rf 12] (CH sb ss T G L O R P C B D S N (MV bm (BH 73 β))) (some (iv (smN (snC mR S G) S.2.2.2.1.toNat))) (CH sb ss T G L O R P C B D S N (MV bm (BH 73 β))) := by
  have hm := hS.1
  refine aw_tree (I0_ok X _) [(true, 49)] [4] rfl ?_
  exact c_cs_loop0 d sb ss T G L O R P C B D S N bm β mR hS hG hH hl ⟨rfl, rfl⟩ S.2.2.2.1.toNat 0 (by omega)
theorem c_lc_loop0 {X : AX} (d : Nat) (sb ss : Nat) (T : TyT) (G : TyG) (L : TyL) (O : TyO) (R : TyR) (P : TyP) (C : TyC) (B D : TyB) (S N : TyS) (bm : AC24) (β : List TyBn) (mR : TyMR) (g : Int) {Q : AQ} (hS : kL S) (hG : kW G) (hH : rH L β mR) (hl : lnR S mR.2.2.2.1) (hg : 0 ≤ g ∧ g < 32) (h1 : S.1 g < mR.2.2.2.1)
    (hQ : Q (some (iv (lcC mR S G g S.2.2.2.1.toNat))) (CH sb ss T G L O R P C B D S N (MV bm (BH 73 β)))) :
    ∀ (m k : Nat), k + m = S.2.2.2.1.toNat → AW X (d + 6) 0 0 70 4 [iv g, rf 41, rf 3, rf 12, iv (lcC mR S G g k), iv k] [] (CH sb ss T G L O R P C B D S N (MV bm (BH 73 β))) Q := by
  have hm := hS.1
  have hR := hH.2.2.2.2.2.2.2
  intro m
  induction m with
  | zero =>
    intro k hk
    have e : k = S.2.2.2.1.toNat := by omega
    rw [← e] at hQ
    refine aw_tree (I0_ok X _) [(true, 49)] [4] rfl ?_
    repeat' (first | refine And.intro ?_ ?_ | (refine aImp_e0 ?_; intro _) | (refine aImp_n0 ?_; intro _) | (refine aImp_i ?_; intro _))
    all_goals (try (first | omega | exact bI_01 _ | exact bI_lo _ | exact bI_hi _ | exact bI_hi' _ | exact trivial | exact Or.inl rfl | exact Or.inr rfl | (exfalso; omega)))
    exact hQ
  | succ m ih =>
    intro k hk
    have goal := ih (k + 1) (by omega)
    rw [lcC] at goal
    have hlk := hS.2.1 k (by omega) (by omega)
    have hl2 := hl k (by omega) (by omega)
    have hr := lcC_r hR hS hG hl hg h1 k (by omega)
    refine aw_tree (I0_ok X _) [(true, 49)] [4] rfl ?_
    repeat' (first | refine And.intro ?_ ?_ | (refine aImp_e0 ?_; intro _) | (refine aImp_n0 ?_; intro _) | (refine aImp_i ?_; intro _))
    all_goals (try (first | omega | exact bI_01 _ | exact bI_lo _ | exact bI_hi _ | exact bI_hi' _ | exact trivial | exact Or.inl rfl | exact Or.inr rfl | (exfalso; omega)))
    refine aw_cf0 (c_isBefore0 _ sb ss T G L O R P C B D S N (MV bm (BH 73 β)) (S.2.2.1 k) g hS hG hlk hg) rfl ?_
    by_cases hb : bfC S G (S.2.2.1 k) g
    · rw [cif_t hb] at goal
      rw [bI_t hb]
      have hlt : S.1 (S.2.2.1 k) < S.1 g := hb.1
      have hov := ovC_r (S := S) (h := S.2.2.1 k) (g := g) hR hG hlk hg ⟨hl2.1, by omega⟩ ⟨by omega, h1⟩
      have hcl := clC_r (far_lt' hR hl2.1 hlt h1) hov
      refine aw_tree (I0_ok X _) [(true, 49)] [4] rfl ?_
      repeat' (first | refine And.intro ?_ ?_ | (refine aImp_e0 ?_; intro _) | (refine aImp_n0 ?_; intro _) | (refine aImp_i ?_; intro _))
      all_goals (try (first | omega | exact bI_01 _ | exact bI_lo _ | exact bI_hi _ | exact bI_hi' _ | exact trivial | exact Or.inl rfl | exact Or.inr rfl | (exfalso; omega)))
      refine aw_cf0 (c_clearFrom0 _ sb ss T G L O R P C B D S N bm β mR (S.2.2.1 k) g hS hG hH hlk hg hl2.1 hlt h1) rfl ?_
      refine aw_tree (I0_ok X _) [(true, 49)] [4] rfl ?_
      repeat' (first | refine And.intro ?_ ?_ | (refine aImp_e0 ?_; intro _) | (refine aImp_n0 ?_; intro _) | (refine aImp_i ?_; intro _))
      all_goals (try (first | omega | exact bI_01 _ | exact bI_lo _ | exact bI_hi _ | exact bI_hi' _ | exact trivial | exact Or.inl rfl | exact Or.inr rfl | (exfalso; omega)))
      exact goal
    · rw [cif_f hb] at goal
      rw [bI_f hb]
      refine aw_tree (I0_ok X _) [(true, 49)] [4] rfl ?_
      repeat' (first | refine And.intro ?_ ?_ | (refine aImp_e0 ?_; intro _) | (refine aImp_n0 ?_; intro _) | (refine aImp_i ?_; intro _))
      all_goals (try (first | omega | exact bI_01 _ | exact bI_lo _ | exact bI_hi _ | exact bI_hi' _ | exact trivial | exact Or.inl rfl | exact Or.inr rfl | (exfalso; omega)))
      exact goal
theorem c_leastClear0 {X : AX} (d : Nat) (sb ss : Nat) (T : TyT) (G : TyG) (L : TyL) (O : TyO) (R : TyR) (P : TyP) (C : TyC) (B D : TyB) (S N : TyS) (bm : AC24) (β : List TyBn) (mR : TyMR) (g : Int) (hS : kL S) (hG : kW G) (hH : rH L β mR) (hl : lnR S mR.2.2.2.1) (hg : 0 ≤ g ∧ g < 32) (h1 : S.1 g < mR.2.2.2.1) :
    AF X (d + 6) 0 0 70 [iv g, rf 41, rf 3, rf 12] (CH sb ss T G L O R P C B D S N (MV bm (BH 73 β))) (some (iv (lcC mR S G g S.2.2.2.1.toNat))) (CH sb ss T G L O R P C B D S N (MV bm (BH 73 β))) := by
  have hm := hS.1
  refine aw_tree (I0_ok X _) [(true, 49)] [4] rfl ?_
  exact c_lc_loop0 d sb ss T G L O R P C B D S N bm β mR g hS hG hH hl hg h1 ⟨rfl, rfl⟩ S.2.2.2.1.toNat 0 (by omega)
theorem c_cs_loop1 {X : AX} (d : Nat) (sb ss : Nat) (T : TyT) (G : TyG) (L : TyL) (O : TyO) (R : TyR) (P : TyP) (C : TyC) (B D : TyB) (S N : TyS) (bm : AC24) (β : List TyBn) (mR : TyMR) {Q : AQ} (hS : kL N) (hG : kW G) (hH : rH L β mR) (hl : lnR N mR.2.2.2.1)
    (hQ : Q (some (iv (smN (snC mR N G) N.2.2.2.1.toNat))) (CH sb ss T G L O R P C B D S N (MV bm (BH 73 β)))) :
    ∀ (m k : Nat), k + m = N.2.2.2.1.toNat → AW X (d + 7) 0 0 69 4 [rf 45, rf 3, rf 12, iv (smN (snC mR N G) k), iv k] [] (CH sb ss T G L O R P C B D S N (MV bm (BH 73 β))) Q := by
  have hm := hS.1
  intro m
  induction m with
  | zero =>
    intro k hk
    have e : k = N.2.2.2.1.toNat := by omega
    rw [← e] at hQ
    refine aw_tree (I0_ok X _) [(true, 49)] [4] rfl ?_
    repeat' (first | refine And.intro ?_ ?_ | (refine aImp_e0 ?_; intro _) | (refine aImp_n0 ?_; intro _) | (refine aImp_i ?_; intro _))
    all_goals (try (first | omega | exact bI_01 _ | exact bI_lo _ | exact bI_hi _ | exact bI_hi' _ | exact trivial | exact Or.inl rfl | exact Or.inr rfl | (exfalso; omega)))
    exact hQ
  | succ m ih =>
    intro k hk
    have goal := ih (k + 1) (by omega)
    rw [smN] at goal
    unfold snC at goal
    have hlk := hS.2.1 k (by omega) (by omega)
    have h01 := smN_01 (e := fun j => bI (hdC mR N G (N.2.2.1 j) (N.2.2.1 k))) (fun _ => bI_r _) N.2.2.2.1.toNat
    refine aw_tree (I0_ok X _) [(true, 49)] [4] rfl ?_
    repeat' (first | refine And.intro ?_ ?_ | (refine aImp_e0 ?_; intro _) | (refine aImp_n0 ?_; intro _) | (refine aImp_i ?_; intro _))
    all_goals (try (first | omega | exact bI_01 _ | exact bI_lo _ | exact bI_hi _ | exact bI_hi' _ | exact trivial | exact Or.inl rfl | exact Or.inr rfl | (exfalso; omega)))
    refine aw_cf0 (c_countHiders1 _ sb ss T G L O R P C B D S N bm β mR (N.2.2.1 k) hS hG hH hl hlk (hl k (by omega) (by omega)).2) rfl ?_
    by_cases q : smN (fun j => bI (hdC mR N G (N.2.2.1 j) (N.2.2.1 k))) N.2.2.2.1.toNat = 0
    · rw [bI_t q] at goal
      refine aw_tree (I0_ok X _) [(true, 49)] [4] rfl ?_
      repeat' (first | refine And.intro ?_ ?_ | (refine aImp_e0 ?_; intro _) | (refine aImp_n0 ?_; intro _) | (refine aImp_i ?_; intro _))
      all_goals (try (first | omega | exact bI_01 _ | exact bI_lo _ | exact bI_hi _ | exact bI_hi' _ | exact trivial | exact Or.inl rfl | exact Or.inr rfl | (exfalso; omega)))
      exact goal
    · rw [bI_f q, Int.add_zero] at goal
      refine aw_tree (I0_ok X _) [(true, 49)] [4] rfl ?_
      repeat' (first | refine And.intro ?_ ?_ | (refine aImp_e0 ?_; intro _) | (refine aImp_n0 ?_; intro _) | (refine aImp_i ?_; intro _))
      all_goals (try (first | omega | exact bI_01 _ | exact bI_lo _ | exact bI_hi _ | exact bI_hi' _ | exact trivial | exact Or.inl rfl | exact Or.inr rfl | (exfalso; omega)))
      exact goal
theorem c_countSeeing1 {X : AX} (d : Nat) (sb ss : Nat) (T : TyT) (G : TyG) (L : TyL) (O : TyO) (R : TyR) (P : TyP) (C : TyC) (B D : TyB) (S N : TyS) (bm : AC24) (β : List TyBn) (mR : TyMR) (hS : kL N) (hG : kW G) (hH : rH L β mR) (hl : lnR N mR.2.2.2.1) :
    AF X (d + 7) 0 0 69 [rf 45, rf 3, rf 12] (CH sb ss T G L O R P C B D S N (MV bm (BH 73 β))) (some (iv (smN (snC mR N G) N.2.2.2.1.toNat))) (CH sb ss T G L O R P C B D S N (MV bm (BH 73 β))) := by
  have hm := hS.1
  refine aw_tree (I0_ok X _) [(true, 49)] [4] rfl ?_
  exact c_cs_loop1 d sb ss T G L O R P C B D S N bm β mR hS hG hH hl ⟨rfl, rfl⟩ N.2.2.2.1.toNat 0 (by omega)
theorem c_lc_loop1 {X : AX} (d : Nat) (sb ss : Nat) (T : TyT) (G : TyG) (L : TyL) (O : TyO) (R : TyR) (P : TyP) (C : TyC) (B D : TyB) (S N : TyS) (bm : AC24) (β : List TyBn) (mR : TyMR) (g : Int) {Q : AQ} (hS : kL N) (hG : kW G) (hH : rH L β mR) (hl : lnR N mR.2.2.2.1) (hg : 0 ≤ g ∧ g < 32) (h1 : N.1 g < mR.2.2.2.1)
    (hQ : Q (some (iv (lcC mR N G g N.2.2.2.1.toNat))) (CH sb ss T G L O R P C B D S N (MV bm (BH 73 β)))) :
    ∀ (m k : Nat), k + m = N.2.2.2.1.toNat → AW X (d + 6) 0 0 70 4 [iv g, rf 45, rf 3, rf 12, iv (lcC mR N G g k), iv k] [] (CH sb ss T G L O R P C B D S N (MV bm (BH 73 β))) Q := by
  have hm := hS.1
  have hR := hH.2.2.2.2.2.2.2
  intro m
  induction m with
  | zero =>
    intro k hk
    have e : k = N.2.2.2.1.toNat := by omega
    rw [← e] at hQ
    refine aw_tree (I0_ok X _) [(true, 49)] [4] rfl ?_
    repeat' (first | refine And.intro ?_ ?_ | (refine aImp_e0 ?_; intro _) | (refine aImp_n0 ?_; intro _) | (refine aImp_i ?_; intro _))
    all_goals (try (first | omega | exact bI_01 _ | exact bI_lo _ | exact bI_hi _ | exact bI_hi' _ | exact trivial | exact Or.inl rfl | exact Or.inr rfl | (exfalso; omega)))
    exact hQ
  | succ m ih =>
    intro k hk
    have goal := ih (k + 1) (by omega)
    rw [lcC] at goal
    have hlk := hS.2.1 k (by omega) (by omega)
    have hl2 := hl k (by omega) (by omega)
    have hr := lcC_r hR hS hG hl hg h1 k (by omega)
    refine aw_tree (I0_ok X _) [(true, 49)] [4] rfl ?_
    repeat' (first | refine And.intro ?_ ?_ | (refine aImp_e0 ?_; intro _) | (refine aImp_n0 ?_; intro _) | (refine aImp_i ?_; intro _))
    all_goals (try (first | omega | exact bI_01 _ | exact bI_lo _ | exact bI_hi _ | exact bI_hi' _ | exact trivial | exact Or.inl rfl | exact Or.inr rfl | (exfalso; omega)))
    refine aw_cf0 (c_isBefore1 _ sb ss T G L O R P C B D S N (MV bm (BH 73 β)) (N.2.2.1 k) g hS hG hlk hg) rfl ?_
    by_cases hb : bfC N G (N.2.2.1 k) g
    · rw [cif_t hb] at goal
      rw [bI_t hb]
      have hlt : N.1 (N.2.2.1 k) < N.1 g := hb.1
      have hov := ovC_r (S := N) (h := N.2.2.1 k) (g := g) hR hG hlk hg ⟨hl2.1, by omega⟩ ⟨by omega, h1⟩
      have hcl := clC_r (far_lt' hR hl2.1 hlt h1) hov
      refine aw_tree (I0_ok X _) [(true, 49)] [4] rfl ?_
      repeat' (first | refine And.intro ?_ ?_ | (refine aImp_e0 ?_; intro _) | (refine aImp_n0 ?_; intro _) | (refine aImp_i ?_; intro _))
      all_goals (try (first | omega | exact bI_01 _ | exact bI_lo _ | exact bI_hi _ | exact bI_hi' _ | exact trivial | exact Or.inl rfl | exact Or.inr rfl | (exfalso; omega)))
      refine aw_cf0 (c_clearFrom1 _ sb ss T G L O R P C B D S N bm β mR (N.2.2.1 k) g hS hG hH hlk hg hl2.1 hlt h1) rfl ?_
      refine aw_tree (I0_ok X _) [(true, 49)] [4] rfl ?_
      repeat' (first | refine And.intro ?_ ?_ | (refine aImp_e0 ?_; intro _) | (refine aImp_n0 ?_; intro _) | (refine aImp_i ?_; intro _))
      all_goals (try (first | omega | exact bI_01 _ | exact bI_lo _ | exact bI_hi _ | exact bI_hi' _ | exact trivial | exact Or.inl rfl | exact Or.inr rfl | (exfalso; omega)))
      exact goal
    · rw [cif_f hb] at goal
      rw [bI_f hb]
      refine aw_tree (I0_ok X _) [(true, 49)] [4] rfl ?_
      repeat' (first | refine And.intro ?_ ?_ | (refine aImp_e0 ?_; intro _) | (refine aImp_n0 ?_; intro _) | (refine aImp_i ?_; intro _))
      all_goals (try (first | omega | exact bI_01 _ | exact bI_lo _ | exact bI_hi _ | exact bI_hi' _ | exact trivial | exact Or.inl rfl | exact Or.inr rfl | (exfalso; omega)))
      exact goal
theorem c_leastClear1 {X : AX} (d : Nat) (sb ss : Nat) (T : TyT) (G : TyG) (L : TyL) (O : TyO) (R : TyR) (P : TyP) (C : TyC) (B D : TyB) (S N : TyS) (bm : AC24) (β : List TyBn) (mR : TyMR) (g : Int) (hS : kL N) (hG : kW G) (hH : rH L β mR) (hl : lnR N mR.2.2.2.1) (hg : 0 ≤ g ∧ g < 32) (h1 : N.1 g < mR.2.2.2.1) :
    AF X (d + 6) 0 0 70 [iv g, rf 45, rf 3, rf 12] (CH sb ss T G L O R P C B D S N (MV bm (BH 73 β))) (some (iv (lcC mR N G g N.2.2.2.1.toNat))) (CH sb ss T G L O R P C B D S N (MV bm (BH 73 β))) := by
  have hm := hS.1
  refine aw_tree (I0_ok X _) [(true, 49)] [4] rfl ?_
  exact c_lc_loop1 d sb ss T G L O R P C B D S N bm β mR g hS hG hH hl hg h1 ⟨rfl, rfl⟩ N.2.2.2.1.toNat 0 (by omega)
def seC (S : TyS) (g : Int) : Prop := (0 ≤ g ∧ g ≤ 31) ∧ ¬ S.1 g = -2 ∧ ¬ S.1 g = -1
theorem c_hidden0 {X : AX} (d : Nat) (sb : Nat) (T : TyT) (G : TyG) (L : TyL) (O : TyO) (R : TyR) (P : TyP) (C : TyC) (B D : TyB) (S N : TyS) (bm : AC24) (β : List TyBn) (mR : TyMR) (g : Int) (hg : inR g) (hgr : inR (S.1 g)) (hS : kL S) (hG : kW G) (hH : rH L β mR) (hl : lnR S mR.2.2.2.1) (hr : ∀ g, 0 ≤ g → g < 32 → S.1 g < mR.2.2.2.1) :
    AF X (d + 7) 0 0 94 [rf 0, iv g] (CH sb 0 T G L O R P C B D S N (MV bm (BH 73 β))) (some (iv (cif (seC S g) (smN (fun i => bI (hdC mR S G (S.2.2.1 i) g)) S.2.2.2.1.toNat) (-1)))) (CH sb 0 T G L O R P C B D S N (MV bm (BH 73 β))) := by
  refine aw_tree (I0_ok X _) [(true, 49)] [] rfl ?_
  refine aw_cf0 (c_isSeated0 _ sb 0 T G L O R P C B D S N (MV bm (BH 73 β)) g hg hgr) rfl ?_
  by_cases hs : seC S g
  · rw [cif_t hs, show bI ((0 ≤ g ∧ g ≤ 31) ∧ ¬ S.1 g = -2 ∧ ¬ S.1 g = -1) = 1 from bI_t hs]
    obtain ⟨c1, c2, c3⟩ := hs
    refine aw_tree (I0_ok X _) [(true, 49)] [] rfl ?_
    repeat' (first | refine And.intro ?_ ?_ | (refine aImp_e0 ?_; intro _) | (refine aImp_n0 ?_; intro _) | (refine aImp_i ?_; intro _))
    all_goals (try (first | omega | exact bI_01 _ | exact bI_lo _ | exact bI_hi _ | exact bI_hi' _ | exact trivial | exact Or.inl rfl | exact Or.inr rfl | (exfalso; omega)))
    refine aw_cf0 (c_countHiders0 _ sb 0 T G L O R P C B D S N bm β mR g hS hG hH hl (by omega) (hr g c1.1 (by omega))) rfl ?_
    refine aw_tree (I0_ok X _) [(true, 49)] [] rfl ?_
    exact ⟨rfl, rfl⟩
  · rw [cif_f hs, show bI ((0 ≤ g ∧ g ≤ 31) ∧ ¬ S.1 g = -2 ∧ ¬ S.1 g = -1) = 0 from bI_f hs]
    refine aw_tree (I0_ok X _) [(true, 49)] [] rfl ?_
    repeat' (first | refine And.intro ?_ ?_ | (refine aImp_e0 ?_; intro _) | (refine aImp_n0 ?_; intro _) | (refine aImp_i ?_; intro _))
    all_goals (try (first | omega | exact bI_01 _ | exact bI_lo _ | exact bI_hi _ | exact bI_hi' _ | exact trivial | exact Or.inl rfl | exact Or.inr rfl | (exfalso; omega)))
    all_goals rfl
theorem c_hider0 {X : AX} (d : Nat) (sb : Nat) (T : TyT) (G : TyG) (L : TyL) (O : TyO) (R : TyR) (P : TyP) (C : TyC) (B D : TyB) (S N : TyS) (bm : AC24) (β : List TyBn) (mR : TyMR) (g kk : Int) {Q : AQ} (hg : inR g) (hkk : inR kk) (hgr : inR (S.1 g)) (hS : kL S) (hG : kW G) (hH : rH L β mR) (hl : lnR S mR.2.2.2.1) (hr : ∀ g, 0 ≤ g → g < 32 → S.1 g < mR.2.2.2.1)
    (q0 : ¬ seC S g → Q (some (iv (-1))) (CH sb 0 T G L O R P C B D S N (MV bm (BH 73 β))))
    (q1 : seC S g → (∀ i : Nat, (i : Int) < S.2.2.2.1 → ¬ (hdC mR S G (S.2.2.1 i) g ∧ smN (fun i => bI (hdC mR S G (S.2.2.1 i) g)) i = kk)) → Q (some (iv (-1))) (CH sb 0 T G L O R P C B D S N (MV bm (BH 73 β))))
    (q2 : seC S g → ∀ i : Nat, (i : Int) < S.2.2.2.1 → hdC mR S G (S.2.2.1 i) g → smN (fun i => bI (hdC mR S G (S.2.2.1 i) g)) i = kk → Q (some (iv (S.2.2.1 i))) (CH sb 0 T G L O R P C B D S N (MV bm (BH 73 β)))) :
    AW X (d + 7) 0 0 95 0 (aEntry 95 [rf 0, iv g, iv kk]) [] (CH sb 0 T G L O R P C B D S N (MV bm (BH 73 β))) Q := by
  refine aw_tree (I0_ok X _) [(true, 49)] [] rfl ?_
  refine aw_cf0 (c_isSeated0 _ sb 0 T G L O R P C B D S N (MV bm (BH 73 β)) g hg hgr) rfl ?_
  by_cases hs : seC S g
  · rw [show bI ((0 ≤ g ∧ g ≤ 31) ∧ ¬ S.1 g = -2 ∧ ¬ S.1 g = -1) = 1 from bI_t hs]
    have hs' := hs
    obtain ⟨c1, c2, c3⟩ := hs'
    refine aw_tree (I0_ok X _) [(true, 49)] [] rfl ?_
    repeat' (first | refine And.intro ?_ ?_ | (refine aImp_e0 ?_; intro _) | (refine aImp_n0 ?_; intro _) | (refine aImp_i ?_; intro _))
    all_goals (try (first | omega | exact bI_01 _ | exact bI_lo _ | exact bI_hi _ | exact bI_hi' _ | exact trivial | exact Or.inl rfl | exact Or.inr rfl | (exfalso; omega)))
    refine aw_ck0 (c_findHider0 _ sb 0 T G L O R P C B D S N bm β mR g kk hkk hS hG hH hl (by omega) (hr g c1.1 (by omega)) (fun h => ?_) (fun i i1 h h2 => ?_)) rfl
    · refine aw_tree (I0_ok X _) [(true, 49)] [] rfl ?_
      exact q1 hs h
    · refine aw_tree (I0_ok X _) [(true, 49)] [] rfl ?_
      exact q2 hs i i1 h h2
  · rw [show bI ((0 ≤ g ∧ g ≤ 31) ∧ ¬ S.1 g = -2 ∧ ¬ S.1 g = -1) = 0 from bI_f hs]
    refine aw_tree (I0_ok X _) [(true, 49)] [] rfl ?_
    repeat' (first | refine And.intro ?_ ?_ | (refine aImp_e0 ?_; intro _) | (refine aImp_n0 ?_; intro _) | (refine aImp_i ?_; intro _))
    all_goals (try (first | omega | exact bI_01 _ | exact bI_lo _ | exact bI_hi _ | exact bI_hi' _ | exact trivial | exact Or.inl rfl | exact Or.inr rfl | (exfalso; omega)))
    all_goals exact q0 hs
theorem c_stage0 {X : AX} (d : Nat) (sb : Nat) (T : TyT) (G : TyG) (L : TyL) (O : TyO) (R : TyR) (P : TyP) (C : TyC) (B D : TyB) (S N : TyS) (bm : AC24) (β : List TyBn) (mR : TyMR) (g : Int) (hg : inR g) (hgr : inR (S.1 g)) (hS : kL S) (hG : kW G) (hH : rH L β mR) (hl : lnR S mR.2.2.2.1) (hr : ∀ g, 0 ≤ g → g < 32 → S.1 g < mR.2.2.2.1) :
    AF X (d + 7) 0 0 96 [rf 0, iv g] (CH sb 0 T G L O R P C B D S N (MV bm (BH 73 β))) (some (iv (cif (seC S g ∧ lcC mR S G g S.2.2.2.1.toNat ≤ 300) (lcC mR S G g S.2.2.2.1.toNat) (-1)))) (CH sb 0 T G L O R P C B D S N (MV bm (BH 73 β))) := by
  have hm := hS.1
  refine aw_tree (I0_ok X _) [(true, 49)] [] rfl ?_
  refine aw_cf0 (c_isSeated0 _ sb 0 T G L O R P C B D S N (MV bm (BH 73 β)) g hg hgr) rfl ?_
  by_cases hs : seC S g
  · rw [show bI ((0 ≤ g ∧ g ≤ 31) ∧ ¬ S.1 g = -2 ∧ ¬ S.1 g = -1) = 1 from bI_t hs]
    have hs' := hs
    obtain ⟨c1, c2, c3⟩ := hs'
    have hlr := lcC_r hH.2.2.2.2.2.2.2 hS hG hl (g := g) (by omega) (hr g c1.1 (by omega)) S.2.2.2.1.toNat (by omega)
    refine aw_tree (I0_ok X _) [(true, 49)] [] rfl ?_
    repeat' (first | refine And.intro ?_ ?_ | (refine aImp_e0 ?_; intro _) | (refine aImp_n0 ?_; intro _) | (refine aImp_i ?_; intro _))
    all_goals (try (first | omega | exact bI_01 _ | exact bI_lo _ | exact bI_hi _ | exact bI_hi' _ | exact trivial | exact Or.inl rfl | exact Or.inr rfl | (exfalso; omega)))
    refine aw_cf0 (c_leastClear0 _ sb 0 T G L O R P C B D S N bm β mR g hS hG hH hl (by omega) (hr g c1.1 (by omega))) rfl ?_
    refine aw_tree (I0_ok X _) [(true, 49)] [] rfl ?_
    repeat' (first | refine And.intro ?_ ?_ | (refine aImp_e0 ?_; intro _) | (refine aImp_n0 ?_; intro _) | (refine aImp_i ?_; intro _))
    all_goals (try (first | omega | exact bI_01 _ | exact bI_lo _ | exact bI_hi _ | exact bI_hi' _ | exact trivial | exact Or.inl rfl | exact Or.inr rfl | (exfalso; omega)))
    all_goals first
      | rfl
      | rw [cif_t ⟨hs, by omega⟩]
      | rw [cif_f (fun z => by have := z.2; omega)]
  · rw [show bI ((0 ≤ g ∧ g ≤ 31) ∧ ¬ S.1 g = -2 ∧ ¬ S.1 g = -1) = 0 from bI_f hs, cif_f (fun z => hs z.1)]
    refine aw_tree (I0_ok X _) [(true, 49)] [] rfl ?_
    repeat' (first | refine And.intro ?_ ?_ | (refine aImp_e0 ?_; intro _) | (refine aImp_n0 ?_; intro _) | (refine aImp_i ?_; intro _))
    all_goals (try (first | omega | exact bI_01 _ | exact bI_lo _ | exact bI_hi _ | exact bI_hi' _ | exact trivial | exact Or.inl rfl | exact Or.inr rfl | (exfalso; omega)))
    all_goals rfl
theorem c_all0 {X : AX} (d : Nat) (sb : Nat) (T : TyT) (G : TyG) (L : TyL) (O : TyO) (R : TyR) (P : TyP) (C : TyC) (B D : TyB) (S N : TyS) (bm : AC24) (β : List TyBn) (mR : TyMR) (w : Int) (hw : inR w) (hS : kL S) (hG : kW G) (hH : rH L β mR) (hl : lnR S mR.2.2.2.1) :
    AF X (d + 8) 0 0 99 [rf 0, iv w] (CH sb 0 T G L O R P C B D S N (MV bm (BH 73 β))) (some (iv (cif (w = 0) G.2.2.2.2.2.2.2.2.1 (cif (w = 1) G.2.2.2.2.2.2.2.2.2.1 (cif (w = 2) L.2.1 (cif (w = 3) G.2.2.2.2.2.2.2.2.2.2 (cif (w = 4) O.2 (cif (w = 5) S.2.2.2.1 (cif (w = 6) (smN (snC mR S G) S.2.2.2.1.toNat) (-1)))))))))) (CH sb 0 T G L O R P C B D S N (MV bm (BH 73 β))) := by
  unfold inR at hw
  refine aw_tree (I0_ok X _) [(true, 49)] [] rfl ?_
  repeat' (first | refine And.intro ?_ ?_ | (refine aImp_e0 ?_; intro _) | (refine aImp_n0 ?_; intro _) | (refine aImp_i ?_; intro _))
  all_goals (try (first | omega | exact bI_01 _ | exact bI_lo _ | exact bI_hi _ | exact bI_hi' _ | exact trivial | exact Or.inl rfl | exact Or.inr rfl | (exfalso; omega)))
  all_goals first
    | rfl
    | rw [cif_t (by omega)]
    | rw [cif_f (by omega), cif_t (by omega)]
    | rw [cif_f (by omega), cif_f (by omega), cif_t (by omega)]
    | rw [cif_f (by omega), cif_f (by omega), cif_f (by omega), cif_t (by omega)]
    | rw [cif_f (by omega), cif_f (by omega), cif_f (by omega), cif_f (by omega), cif_t (by omega)]
    | rw [cif_f (by omega), cif_f (by omega), cif_f (by omega), cif_f (by omega), cif_f (by omega), cif_t (by omega)]
    | (refine aw_cf0 (c_countSeeing0 _ sb 0 T G L O R P C B D S N bm β mR hS hG hH hl) rfl ?_
       rw [cif_f (by omega), cif_f (by omega), cif_f (by omega), cif_f (by omega), cif_f (by omega), cif_f (by omega), cif_t (by omega)]
       refine aw_tree (I0_ok X _) [(true, 49)] [] rfl ?_
       exact ⟨rfl, rfl⟩)
    | rw [cif_f (by omega), cif_f (by omega), cif_f (by omega), cif_f (by omega), cif_f (by omega), cif_f (by omega), cif_f (by omega)]
theorem c_hidden1 {X : AX} (d : Nat) (sb : Nat) (T : TyT) (G : TyG) (L : TyL) (O : TyO) (R : TyR) (P : TyP) (C : TyC) (B D : TyB) (S N : TyS) (bm : AC24) (β : List TyBn) (mR : TyMR) (g : Int) (hg : inR g) (hgr : inR (N.1 g)) (hS : kL N) (hG : kW G) (hH : rH L β mR) (hl : lnR N mR.2.2.2.1) (hr : ∀ g, 0 ≤ g → g < 32 → N.1 g < mR.2.2.2.1) :
    AF X (d + 7) 0 0 94 [rf 0, iv g] (CH sb 1 T G L O R P C B D S N (MV bm (BH 73 β))) (some (iv (cif (seC N g) (smN (fun i => bI (hdC mR N G (N.2.2.1 i) g)) N.2.2.2.1.toNat) (-1)))) (CH sb 1 T G L O R P C B D S N (MV bm (BH 73 β))) := by
  refine aw_tree (I0_ok X _) [(true, 49)] [] rfl ?_
  refine aw_cf0 (c_isSeated1 _ sb 1 T G L O R P C B D S N (MV bm (BH 73 β)) g hg hgr) rfl ?_
  by_cases hs : seC N g
  · rw [cif_t hs, show bI ((0 ≤ g ∧ g ≤ 31) ∧ ¬ N.1 g = -2 ∧ ¬ N.1 g = -1) = 1 from bI_t hs]
    obtain ⟨c1, c2, c3⟩ := hs
    refine aw_tree (I0_ok X _) [(true, 49)] [] rfl ?_
    repeat' (first | refine And.intro ?_ ?_ | (refine aImp_e0 ?_; intro _) | (refine aImp_n0 ?_; intro _) | (refine aImp_i ?_; intro _))
    all_goals (try (first | omega | exact bI_01 _ | exact bI_lo _ | exact bI_hi _ | exact bI_hi' _ | exact trivial | exact Or.inl rfl | exact Or.inr rfl | (exfalso; omega)))
    refine aw_cf0 (c_countHiders1 _ sb 1 T G L O R P C B D S N bm β mR g hS hG hH hl (by omega) (hr g c1.1 (by omega))) rfl ?_
    refine aw_tree (I0_ok X _) [(true, 49)] [] rfl ?_
    exact ⟨rfl, rfl⟩
  · rw [cif_f hs, show bI ((0 ≤ g ∧ g ≤ 31) ∧ ¬ N.1 g = -2 ∧ ¬ N.1 g = -1) = 0 from bI_f hs]
    refine aw_tree (I0_ok X _) [(true, 49)] [] rfl ?_
    repeat' (first | refine And.intro ?_ ?_ | (refine aImp_e0 ?_; intro _) | (refine aImp_n0 ?_; intro _) | (refine aImp_i ?_; intro _))
    all_goals (try (first | omega | exact bI_01 _ | exact bI_lo _ | exact bI_hi _ | exact bI_hi' _ | exact trivial | exact Or.inl rfl | exact Or.inr rfl | (exfalso; omega)))
    all_goals rfl
theorem c_hider1 {X : AX} (d : Nat) (sb : Nat) (T : TyT) (G : TyG) (L : TyL) (O : TyO) (R : TyR) (P : TyP) (C : TyC) (B D : TyB) (S N : TyS) (bm : AC24) (β : List TyBn) (mR : TyMR) (g kk : Int) {Q : AQ} (hg : inR g) (hkk : inR kk) (hgr : inR (N.1 g)) (hS : kL N) (hG : kW G) (hH : rH L β mR) (hl : lnR N mR.2.2.2.1) (hr : ∀ g, 0 ≤ g → g < 32 → N.1 g < mR.2.2.2.1)
    (q0 : ¬ seC N g → Q (some (iv (-1))) (CH sb 1 T G L O R P C B D S N (MV bm (BH 73 β))))
    (q1 : seC N g → (∀ i : Nat, (i : Int) < N.2.2.2.1 → ¬ (hdC mR N G (N.2.2.1 i) g ∧ smN (fun i => bI (hdC mR N G (N.2.2.1 i) g)) i = kk)) → Q (some (iv (-1))) (CH sb 1 T G L O R P C B D S N (MV bm (BH 73 β))))
    (q2 : seC N g → ∀ i : Nat, (i : Int) < N.2.2.2.1 → hdC mR N G (N.2.2.1 i) g → smN (fun i => bI (hdC mR N G (N.2.2.1 i) g)) i = kk → Q (some (iv (N.2.2.1 i))) (CH sb 1 T G L O R P C B D S N (MV bm (BH 73 β)))) :
    AW X (d + 7) 0 0 95 0 (aEntry 95 [rf 0, iv g, iv kk]) [] (CH sb 1 T G L O R P C B D S N (MV bm (BH 73 β))) Q := by
  refine aw_tree (I0_ok X _) [(true, 49)] [] rfl ?_
  refine aw_cf0 (c_isSeated1 _ sb 1 T G L O R P C B D S N (MV bm (BH 73 β)) g hg hgr) rfl ?_
  by_cases hs : seC N g
  · rw [show bI ((0 ≤ g ∧ g ≤ 31) ∧ ¬ N.1 g = -2 ∧ ¬ N.1 g = -1) = 1 from bI_t hs]
    have hs' := hs
    obtain ⟨c1, c2, c3⟩ := hs'
    refine aw_tree (I0_ok X _) [(true, 49)] [] rfl ?_
    repeat' (first | refine And.intro ?_ ?_ | (refine aImp_e0 ?_; intro _) | (refine aImp_n0 ?_; intro _) | (refine aImp_i ?_; intro _))
    all_goals (try (first | omega | exact bI_01 _ | exact bI_lo _ | exact bI_hi _ | exact bI_hi' _ | exact trivial | exact Or.inl rfl | exact Or.inr rfl | (exfalso; omega)))
    refine aw_ck0 (c_findHider1 _ sb 1 T G L O R P C B D S N bm β mR g kk hkk hS hG hH hl (by omega) (hr g c1.1 (by omega)) (fun h => ?_) (fun i i1 h h2 => ?_)) rfl
    · refine aw_tree (I0_ok X _) [(true, 49)] [] rfl ?_
      exact q1 hs h
    · refine aw_tree (I0_ok X _) [(true, 49)] [] rfl ?_
      exact q2 hs i i1 h h2
  · rw [show bI ((0 ≤ g ∧ g ≤ 31) ∧ ¬ N.1 g = -2 ∧ ¬ N.1 g = -1) = 0 from bI_f hs]
    refine aw_tree (I0_ok X _) [(true, 49)] [] rfl ?_
    repeat' (first | refine And.intro ?_ ?_ | (refine aImp_e0 ?_; intro _) | (refine aImp_n0 ?_; intro _) | (refine aImp_i ?_; intro _))
    all_goals (try (first | omega | exact bI_01 _ | exact bI_lo _ | exact bI_hi _ | exact bI_hi' _ | exact trivial | exact Or.inl rfl | exact Or.inr rfl | (exfalso; omega)))
    all_goals exact q0 hs
theorem c_stage1 {X : AX} (d : Nat) (sb : Nat) (T : TyT) (G : TyG) (L : TyL) (O : TyO) (R : TyR) (P : TyP) (C : TyC) (B D : TyB) (S N : TyS) (bm : AC24) (β : List TyBn) (mR : TyMR) (g : Int) (hg : inR g) (hgr : inR (N.1 g)) (hS : kL N) (hG : kW G) (hH : rH L β mR) (hl : lnR N mR.2.2.2.1) (hr : ∀ g, 0 ≤ g → g < 32 → N.1 g < mR.2.2.2.1) :
    AF X (d + 7) 0 0 96 [rf 0, iv g] (CH sb 1 T G L O R P C B D S N (MV bm (BH 73 β))) (some (iv (cif (seC N g ∧ lcC mR N G g N.2.2.2.1.toNat ≤ 300) (lcC mR N G g N.2.2.2.1.toNat) (-1)))) (CH sb 1 T G L O R P C B D S N (MV bm (BH 73 β))) := by
  have hm := hS.1
  refine aw_tree (I0_ok X _) [(true, 49)] [] rfl ?_
  refine aw_cf0 (c_isSeated1 _ sb 1 T G L O R P C B D S N (MV bm (BH 73 β)) g hg hgr) rfl ?_
  by_cases hs : seC N g
  · rw [show bI ((0 ≤ g ∧ g ≤ 31) ∧ ¬ N.1 g = -2 ∧ ¬ N.1 g = -1) = 1 from bI_t hs]
    have hs' := hs
    obtain ⟨c1, c2, c3⟩ := hs'
    have hlr := lcC_r hH.2.2.2.2.2.2.2 hS hG hl (g := g) (by omega) (hr g c1.1 (by omega)) N.2.2.2.1.toNat (by omega)
    refine aw_tree (I0_ok X _) [(true, 49)] [] rfl ?_
    repeat' (first | refine And.intro ?_ ?_ | (refine aImp_e0 ?_; intro _) | (refine aImp_n0 ?_; intro _) | (refine aImp_i ?_; intro _))
    all_goals (try (first | omega | exact bI_01 _ | exact bI_lo _ | exact bI_hi _ | exact bI_hi' _ | exact trivial | exact Or.inl rfl | exact Or.inr rfl | (exfalso; omega)))
    refine aw_cf0 (c_leastClear1 _ sb 1 T G L O R P C B D S N bm β mR g hS hG hH hl (by omega) (hr g c1.1 (by omega))) rfl ?_
    refine aw_tree (I0_ok X _) [(true, 49)] [] rfl ?_
    repeat' (first | refine And.intro ?_ ?_ | (refine aImp_e0 ?_; intro _) | (refine aImp_n0 ?_; intro _) | (refine aImp_i ?_; intro _))
    all_goals (try (first | omega | exact bI_01 _ | exact bI_lo _ | exact bI_hi _ | exact bI_hi' _ | exact trivial | exact Or.inl rfl | exact Or.inr rfl | (exfalso; omega)))
    all_goals first
      | rfl
      | rw [cif_t ⟨hs, by omega⟩]
      | rw [cif_f (fun z => by have := z.2; omega)]
  · rw [show bI ((0 ≤ g ∧ g ≤ 31) ∧ ¬ N.1 g = -2 ∧ ¬ N.1 g = -1) = 0 from bI_f hs, cif_f (fun z => hs z.1)]
    refine aw_tree (I0_ok X _) [(true, 49)] [] rfl ?_
    repeat' (first | refine And.intro ?_ ?_ | (refine aImp_e0 ?_; intro _) | (refine aImp_n0 ?_; intro _) | (refine aImp_i ?_; intro _))
    all_goals (try (first | omega | exact bI_01 _ | exact bI_lo _ | exact bI_hi _ | exact bI_hi' _ | exact trivial | exact Or.inl rfl | exact Or.inr rfl | (exfalso; omega)))
    all_goals rfl
theorem c_all1 {X : AX} (d : Nat) (sb : Nat) (T : TyT) (G : TyG) (L : TyL) (O : TyO) (R : TyR) (P : TyP) (C : TyC) (B D : TyB) (S N : TyS) (bm : AC24) (β : List TyBn) (mR : TyMR) (w : Int) (hw : inR w) (hS : kL N) (hG : kW G) (hH : rH L β mR) (hl : lnR N mR.2.2.2.1) :
    AF X (d + 8) 0 0 99 [rf 0, iv w] (CH sb 1 T G L O R P C B D S N (MV bm (BH 73 β))) (some (iv (cif (w = 0) G.2.2.2.2.2.2.2.2.1 (cif (w = 1) G.2.2.2.2.2.2.2.2.2.1 (cif (w = 2) L.2.1 (cif (w = 3) G.2.2.2.2.2.2.2.2.2.2 (cif (w = 4) O.2 (cif (w = 5) N.2.2.2.1 (cif (w = 6) (smN (snC mR N G) N.2.2.2.1.toNat) (-1)))))))))) (CH sb 1 T G L O R P C B D S N (MV bm (BH 73 β))) := by
  unfold inR at hw
  refine aw_tree (I0_ok X _) [(true, 49)] [] rfl ?_
  repeat' (first | refine And.intro ?_ ?_ | (refine aImp_e0 ?_; intro _) | (refine aImp_n0 ?_; intro _) | (refine aImp_i ?_; intro _))
  all_goals (try (first | omega | exact bI_01 _ | exact bI_lo _ | exact bI_hi _ | exact bI_hi' _ | exact trivial | exact Or.inl rfl | exact Or.inr rfl | (exfalso; omega)))
  all_goals first
    | rfl
    | rw [cif_t (by omega)]
    | rw [cif_f (by omega), cif_t (by omega)]
    | rw [cif_f (by omega), cif_f (by omega), cif_t (by omega)]
    | rw [cif_f (by omega), cif_f (by omega), cif_f (by omega), cif_t (by omega)]
    | rw [cif_f (by omega), cif_f (by omega), cif_f (by omega), cif_f (by omega), cif_t (by omega)]
    | rw [cif_f (by omega), cif_f (by omega), cif_f (by omega), cif_f (by omega), cif_f (by omega), cif_t (by omega)]
    | (refine aw_cf0 (c_countSeeing1 _ sb 1 T G L O R P C B D S N bm β mR hS hG hH hl) rfl ?_
       rw [cif_f (by omega), cif_f (by omega), cif_f (by omega), cif_f (by omega), cif_f (by omega), cif_f (by omega), cif_t (by omega)]
       refine aw_tree (I0_ok X _) [(true, 49)] [] rfl ?_
       exact ⟨rfl, rfl⟩)
    | rw [cif_f (by omega), cif_f (by omega), cif_f (by omega), cif_f (by omega), cif_f (by omega), cif_f (by omega), cif_f (by omega)]

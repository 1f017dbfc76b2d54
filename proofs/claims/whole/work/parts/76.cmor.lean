/-! ===== the class's morning ===== -/
theorem c_cclear {X : AX} (d : Nat) (sb ss : Nat) (T : TyT) (G : TyG) (L : TyL) (O : TyO) (R : TyR) (P : TyP) (C : TyC) (B D : TyB) (S N : TyS) (t : AH) : AF X (d + 3) 0 0 4 [rf 26] (CH sb ss T G L O R P C B D S N t) none (CH sb ss T G L O R P (fil C.1 (-1) 32, fil C.2.1 (-1) 32, fil C.2.2.1 (-1) 32, fil C.2.2.2 0 4) B D S N t) := by
  refine aw_tree (I0_ok X _) [(true, 49)] [] rfl ?_
  refine aw_cf0 (c_fill (d + 0) 27 32 (-1) C.1 _ (by omega) rfl) rfl ?_
  refine aw_tree (I0_ok X _) [(true, 49)] [] rfl ?_
  refine aw_cf0 (c_fill (d + 0) 28 32 (-1) C.2.1 _ (by omega) rfl) rfl ?_
  refine aw_tree (I0_ok X _) [(true, 49)] [] rfl ?_
  refine aw_cf0 (c_fill (d + 0) 29 32 (-1) C.2.2.1 _ (by omega) rfl) rfl ?_
  refine aw_tree (I0_ok X _) [(true, 49)] [] rfl ?_
  refine aw_cf0 (c_fill (d + 0) 30 4 0 C.2.2.2 _ (by omega) rfl) rfl ?_
  refine aw_tree (I0_ok X _) [(true, 49)] [] rfl ?_
  exact ⟨rfl, rfl⟩
theorem c_ffm_loop {X : AX} (d : Nat) (sb ss : Nat) (T : TyT) (G : TyG) (L : TyL) (O : TyO) (R : TyR) (P : TyP) (C : TyC) (B D : TyB) (S N : TyS) (t : AH) (n : Int) {Q : AQ} (hn : 1 ≤ n ∧ n ≤ 4) (hg : ∀ i, 0 ≤ i → i < 4 → 0 ≤ C.2.2.2 i ∧ C.2.2.2 i ≤ 1000)
    (hQ : Q (some (iv (mnN C.2.2.2 (n - 1).toNat))) (CH sb ss T G L O R P C B D S N t)) :
    ∀ (m k : Nat), k + m = (n - 1).toNat → AW X (d + 3) 0 0 6 7 [rf 26, iv n, iv (mnN C.2.2.2 k), iv ((k : Int) + 1)] [] (CH sb ss T G L O R P C B D S N t) Q := by
  intro m
  induction m with
  | zero =>
    intro k hk
    have e : k = (n - 1).toNat := by omega
    rw [← e] at hQ
    have hr := mnN_r hg k (by omega)
    refine aw_tree (I0_ok X _) [(true, 49)] [7] rfl ?_
    repeat' (first | refine And.intro ?_ ?_ | (refine aImp_e0 ?_; intro _) | (refine aImp_n0 ?_; intro _) | (refine aImp_i ?_; intro _))
    all_goals (try (first | omega | exact bI_01 _ | exact bI_lo _ | exact bI_hi _ | exact bI_hi' _ | exact trivial | exact Or.inl rfl | exact Or.inr rfl | (exfalso; omega)))
    all_goals exact hQ
  | succ m ih =>
    intro k hk
    have goal := ih (k + 1) (by omega)
    rw [mnN] at goal
    have hr := mnN_r hg k (by omega)
    have hr2 := hg ((k : Int) + 1) (by omega) (by omega)
    refine aw_tree (I0_ok X _) [(true, 49)] [7] rfl ?_
    repeat' (first | refine And.intro ?_ ?_ | (refine aImp_e0 ?_; intro _) | (refine aImp_n0 ?_; intro _) | (refine aImp_i ?_; intro _))
    all_goals (try (first | omega | exact bI_01 _ | exact bI_lo _ | exact bI_hi _ | exact bI_hi' _ | exact trivial | exact Or.inl rfl | exact Or.inr rfl | (exfalso; omega)))
    exact goal
theorem c_ffm {X : AX} (d : Nat) (sb ss : Nat) (T : TyT) (G : TyG) (L : TyL) (O : TyO) (R : TyR) (P : TyP) (C : TyC) (B D : TyB) (S N : TyS) (t : AH) (n : Int) (hn : 1 ≤ n ∧ n ≤ 4) (hg : ∀ i, 0 ≤ i → i < 4 → 0 ≤ C.2.2.2 i ∧ C.2.2.2 i ≤ 1000) : AF X (d + 3) 0 0 6 [rf 26, iv n] (CH sb ss T G L O R P C B D S N t) (some (iv (mnN C.2.2.2 (n - 1).toNat))) (CH sb ss T G L O R P C B D S N t) := by
  refine aw_tree (I0_ok X _) [(true, 49)] [7] rfl ?_
  repeat' (first | refine And.intro ?_ ?_ | (refine aImp_e0 ?_; intro _) | (refine aImp_n0 ?_; intro _) | (refine aImp_i ?_; intro _))
  all_goals (try (first | omega | exact bI_01 _ | exact bI_lo _ | exact bI_hi _ | exact bI_hi' _ | exact trivial | exact Or.inl rfl | exact Or.inr rfl | (exfalso; omega)))
  exact c_ffm_loop d sb ss T G L O R P C B D S N t n hn hg ⟨rfl, rfl⟩ (n - 1).toNat 0 (by omega)
theorem c_ffg_loop {X : AX} (d : Nat) (sb ss : Nat) (T : TyT) (G : TyG) (L : TyL) (O : TyO) (R : TyR) (P : TyP) (C : TyC) (B D : TyB) (S N : TyS) (t : AH) (n mi x : Int) {Q : AQ} (hn : 1 ≤ n ∧ n ≤ 4) (hmi : inR mi) (hx : 0 ≤ x ∧ x < n) (hg : ∀ i, 0 ≤ i → i < 4 → 0 ≤ C.2.2.2 i ∧ C.2.2.2 i ≤ 1000) (h1 : C.2.2.2 x ≤ mi) (h2 : ∀ s, 0 ≤ s → s < x → ¬ C.2.2.2 s ≤ mi)
    (hQ : Q (some (iv x)) (CH sb ss T G L O R P C B D S N t)) :
    ∀ (m : Nat) (s : Int), s + m = x → 0 ≤ s → AW X (d + 3) 0 0 7 2 [rf 26, iv n, iv mi, iv s] [] (CH sb ss T G L O R P C B D S N t) Q := by
  unfold inR at hmi
  intro m
  induction m with
  | zero =>
    intro s hs s0
    have e : s = x := by omega
    subst e
    have hr := hg s hx.1 (by omega)
    refine aw_tree (I0_ok X _) [(true, 49)] [2] rfl ?_
    repeat' (first | refine And.intro ?_ ?_ | (refine aImp_e0 ?_; intro _) | (refine aImp_n0 ?_; intro _) | (refine aImp_i ?_; intro _))
    all_goals (try (first | omega | exact bI_01 _ | exact bI_lo _ | exact bI_hi _ | exact bI_hi' _ | exact trivial | exact Or.inl rfl | exact Or.inr rfl | (exfalso; omega)))
    exact hQ
  | succ m ih =>
    intro s hs s0
    have goal := ih (s + 1) (by omega) (by omega)
    have hr := hg s (by omega) (by omega)
    have hlt := h2 s s0 (by omega)
    refine aw_tree (I0_ok X _) [(true, 49)] [2] rfl ?_
    repeat' (first | refine And.intro ?_ ?_ | (refine aImp_e0 ?_; intro _) | (refine aImp_n0 ?_; intro _) | (refine aImp_i ?_; intro _))
    all_goals (try (first | omega | exact bI_01 _ | exact bI_lo _ | exact bI_hi _ | exact bI_hi' _ | exact trivial | exact Or.inl rfl | exact Or.inr rfl | (exfalso; omega)))
    exact goal
theorem c_ffg {X : AX} (d : Nat) (sb ss : Nat) (T : TyT) (G : TyG) (L : TyL) (O : TyO) (R : TyR) (P : TyP) (C : TyC) (B D : TyB) (S N : TyS) (t : AH) (n mi x : Int) (hn : 1 ≤ n ∧ n ≤ 4) (hmi : inR mi) (hx : 0 ≤ x ∧ x < n) (hg : ∀ i, 0 ≤ i → i < 4 → 0 ≤ C.2.2.2 i ∧ C.2.2.2 i ≤ 1000) (h1 : C.2.2.2 x ≤ mi) (h2 : ∀ s, 0 ≤ s → s < x → ¬ C.2.2.2 s ≤ mi) : AF X (d + 3) 0 0 7 [rf 26, iv n, iv mi] (CH sb ss T G L O R P C B D S N t) (some (iv x)) (CH sb ss T G L O R P C B D S N t) := by
  refine aw_tree (I0_ok X _) [(true, 49)] [2] rfl ?_
  exact c_ffg_loop d sb ss T G L O R P C B D S N t n mi x hn hmi hx hg h1 h2 ⟨rfl, rfl⟩ x.toNat 0 (by omega) (by omega)
abbrev mCq (q : TyM) : TyC := (q.2.2.2.1, q.2.2.2.2.1, q.2.2.2.2.2, q.2.2.1)
set_option maxRecDepth 100000 in
theorem c_arr_loop0 {X : AX} (d : Nat) (sb ss : Nat) (T : TyT) (G : TyG) (L : TyL) (O : TyO) (R : TyR) (P : TyP) (B D : TyB) (S N : TyS) (t : AH) (n : Int) (q : TyM) (f : FN) {Q : AQ} (hf : ∀ k, f k = S.2.2.1 (S.2.2.2.1 - 1 - k)) (hn : 1 ≤ n ∧ n ≤ 4) (hS : kL S) (hG : kW G) (hq : kM 0 q)
    (hQ : Q (some (iv (mRun n G.2.2.2.1 f S.2.2.2.1.toNat q).2.1)) (CH sb ss T G L O R P (mCq (mRun n G.2.2.2.1 f S.2.2.2.1.toNat q)) B D S N t)) :
    ∀ (m k : Nat) (v7 v8 : AV), k + m = S.2.2.2.1.toNat → AW X (d + 4) 0 0 5 8 [rf 26, rf 41, rf 3, iv n, iv (mRun n G.2.2.2.1 f k q).1, iv (mRun n G.2.2.2.1 f k q).2.1, iv k, v7, v8] [] (CH sb ss T G L O R P (mCq (mRun n G.2.2.2.1 f k q)) B D S N t) Q := by
  have hm := hS.1
  have hfr : ∀ i, 0 ≤ i → i < S.2.2.2.1 → (0 ≤ f i ∧ f i < 32) ∧ 0 ≤ G.2.2.2.1 (f i) ∧ G.2.2.2.1 (f i) ≤ 6 := by
    intro i i0 i1
    have h1 := hS.2.1 (S.2.2.2.1 - 1 - i) (by omega) (by omega)
    rw [← hf i] at h1
    exact ⟨h1, (hG _ h1.1 h1.2).1⟩
  intro m
  induction m with
  | zero =>
    intro k v7 v8 hk
    have e : k = S.2.2.2.1.toNat := by omega
    subst e
    refine aw_tree (I0_ok X _) [(true, 49)] [8] rfl ?_
    dsimp only
    repeat' (first | refine And.intro ?_ ?_ | (refine aImp_e0 ?_; intro _) | (refine aImp_n0 ?_; intro _) | (refine aImp_i ?_; intro _))
    all_goals (try (first | omega | exact bI_01 _ | exact bI_lo _ | exact bI_hi _ | exact bI_hi' _ | exact trivial | exact Or.inl rfl | exact Or.inr rfl | (exfalso; omega)))
    exact hQ
  | succ m ih =>
    intro k v7 v8 hk
    have goal := fun v7 v8 => ih (k + 1) v7 v8 (by omega)
    have hkM := mRun_k (w := G.2.2.2.1) (f := f) hn hq k (fun i i0 i1 => (hfr i i0 (by omega)).2)
    rw [mRun] at goal
    clear hQ ih hq
    generalize mRun n G.2.2.2.1 f k q = p at *
    have hfk := hfr k (by omega) (by omega)
    have efk := hf k
    have hg4 : ∀ i, 0 ≤ i → i < 4 → 0 ≤ p.2.2.1 i ∧ p.2.2.1 i ≤ 1000 := fun i i0 i1 => by
      have := hkM.2.2 i i0 i1
      omega
    have hmi := mMi_r hn hkM
    have hmn := mnN_r hg4 (n - 1).toNat (by omega)
    obtain ⟨gr, g1, g2⟩ := mGa_r (q := p) hn
    have hp1 := hkM.1
    have hp2 := hkM.2.1
    have eg : aUp p.2.2.1 (mGa n p) (mMi n p + G.2.2.2.1 (f k)) (mGa n p) = mMi n p + G.2.2.2.1 (f k) := aUp_s _ _ _
    refine aw_tree (I0_ok X _) [(true, 49)] [8] rfl ?_
    rw [← efk]
    dsimp only
    repeat' (first | refine And.intro ?_ ?_ | (refine aImp_e0 ?_; intro _) | (refine aImp_n0 ?_; intro _) | (refine aImp_i ?_; intro _))
    all_goals (try (first | omega | exact bI_01 _ | exact bI_lo _ | exact bI_hi _ | exact bI_hi' _ | exact trivial | exact Or.inl rfl | exact Or.inr rfl | (exfalso; omega)))
    refine aw_cf0 (c_ffm _ sb ss T G L O R P (mCq p) B D S N t n hn hg4) rfl ?_
    refine aw_tree (I0_ok X _) [(true, 49)] [8] rfl ?_
    dsimp only
    repeat' (first | refine And.intro ?_ ?_ | (refine aImp_e0 ?_; intro _) | (refine aImp_n0 ?_; intro _) | (refine aImp_i ?_; intro _))
    all_goals (try (first | omega | exact bI_01 _ | exact bI_lo _ | exact bI_hi _ | exact bI_hi' _ | exact trivial | exact Or.inl rfl | exact Or.inr rfl | (exfalso; omega)))
    rw [show max p.1 (mnN p.2.2.1 (n - 1).toNat) = mMi n p from rfl]
    refine aw_cf0 (c_ffg _ sb ss T G L O R P (mCq p) B D S N t n (mMi n p) (mGa n p) hn (by unfold inR; omega) gr hg4 g1 g2) rfl ?_
    refine aw_tree (I0_ok X _) [(true, 49)] [8] rfl ?_
    dsimp only
    rw [eg]
    repeat' (first | refine And.intro ?_ ?_ | (refine aImp_e0 ?_; intro _) | (refine aImp_n0 ?_; intro _) | (refine aImp_i ?_; intro _))
    all_goals (try (first | omega | exact bI_01 _ | exact bI_lo _ | exact bI_hi _ | exact bI_hi' _ | exact trivial | exact Or.inl rfl | exact Or.inr rfl | (exfalso; omega)))
    exact goal _ _
theorem c_arrange0 {X : AX} (d : Nat) (sb ss : Nat) (T : TyT) (G : TyG) (L : TyL) (O : TyO) (R : TyR) (P : TyP) (C : TyC) (B D : TyB) (S N : TyS) (t : AH) (n : Int) (f : FN) (hf : ∀ k, f k = S.2.2.1 (S.2.2.2.1 - 1 - k)) (hn : 1 ≤ n ∧ n ≤ 4) (hS : kL S) (hG : kW G) :
    AF X (d + 4) 0 0 5 [rf 26, rf 41, rf 3, iv n] (CH sb ss T G L O R P C B D S N t) (some (iv (mRun n G.2.2.2.1 f S.2.2.2.1.toNat (0, 0, fil C.2.2.2 0 4, fil C.1 (-1) 32, fil C.2.1 (-1) 32, fil C.2.2.1 (-1) 32)).2.1)) (CH sb ss T G L O R P (mCq (mRun n G.2.2.2.1 f S.2.2.2.1.toNat (0, 0, fil C.2.2.2 0 4, fil C.1 (-1) 32, fil C.2.1 (-1) 32, fil C.2.2.1 (-1) 32))) B D S N t) := by
  have hm := hS.1
  refine aw_tree (I0_ok X _) [(true, 49)] [8] rfl ?_
  refine aw_cf0 (c_cclear _ sb ss T G L O R P C B D S N t) rfl ?_
  refine aw_tree (I0_ok X _) [(true, 49)] [8] rfl ?_
  exact c_arr_loop0 d sb ss T G L O R P B D S N t n (0, 0, fil C.2.2.2 0 4, fil C.1 (-1) 32, fil C.2.1 (-1) 32, fil C.2.2.1 (-1) 32) f hf hn hS hG ⟨⟨Int.le_refl 0, Int.le_refl 0⟩, ⟨Int.le_refl 0, Int.le_refl 0⟩, fun i i0 i1 => by
    show 0 ≤ fil C.2.2.2 0 4 i ∧ fil C.2.2.2 0 4 i ≤ 0
    rw [fil_lt 4 i i0 i1]; omega⟩ ⟨rfl, rfl⟩ S.2.2.2.1.toNat 0 jk jk (by omega)
theorem c_morning0 {X : AX} (d : Nat) (sb : Nat) (T : TyT) (G : TyG) (L : TyL) (O : TyO) (R : TyR) (P : TyP) (C : TyC) (B D : TyB) (S N : TyS) (t : AH) (n sh : Int) (f : FN) {Q : AQ} (hf : ∀ k, f k = S.2.2.1 (S.2.2.2.1 - 1 - k)) (hn : inR n) (hsh : inR sh) (hS : kL S) (hG : kW G)
    (h1 : ¬ ((1 ≤ n ∧ n ≤ 4) ∧ (0 ≤ sh ∧ sh ≤ 2000) ∧ S.2.2.2.1 ≠ 0) → Q (some (iv (-10000))) (CH sb 0 T G L O R P C B D S N t))
    (h2 : (1 ≤ n ∧ n ≤ 4) ∧ (0 ≤ sh ∧ sh ≤ 2000) ∧ S.2.2.2.1 ≠ 0 → Q (some (iv (sh - (mRun n G.2.2.2.1 f S.2.2.2.1.toNat (0, 0, fil C.2.2.2 0 4, fil C.1 (-1) 32, fil C.2.1 (-1) 32, fil C.2.2.1 (-1) 32)).2.1))) (CH sb 0 T G L O R P (mCq (mRun n G.2.2.2.1 f S.2.2.2.1.toNat (0, 0, fil C.2.2.2 0 4, fil C.1 (-1) 32, fil C.2.1 (-1) 32, fil C.2.2.1 (-1) 32))) B D S N t)) :
    AW X (d + 5) 0 0 97 0 (aEntry 97 [rf 0, iv n, iv sh]) [] (CH sb 0 T G L O R P C B D S N t) Q := by
  unfold inR at hn hsh
  have hm := hS.1
  refine aw_tree (I0_ok X _) [(true, 49)] [] rfl ?_
  repeat' (first | refine And.intro ?_ ?_ | (refine aImp_e0 ?_; intro _) | (refine aImp_n0 ?_; intro _) | (refine aImp_i ?_; intro _))
  all_goals (try (first | omega | exact bI_01 _ | exact bI_lo _ | exact bI_hi _ | exact bI_hi' _ | exact trivial | exact Or.inl rfl | exact Or.inr rfl | (exfalso; omega)))
  all_goals first
    | exact h1 (by omega)
    | (have q := h2 (by omega)
       refine aw_cf0 (c_arrange0 _ sb 0 T G L O R P C B D S N t n f hf (by omega) hS hG) rfl ?_
       refine aw_tree (I0_ok X _) [(true, 49)] [] rfl ?_
       exact q)
set_option maxRecDepth 100000 in
theorem c_arr_loop1 {X : AX} (d : Nat) (sb ss : Nat) (T : TyT) (G : TyG) (L : TyL) (O : TyO) (R : TyR) (P : TyP) (B D : TyB) (S N : TyS) (t : AH) (n : Int) (q : TyM) (f : FN) {Q : AQ} (hf : ∀ k, f k = N.2.2.1 (N.2.2.2.1 - 1 - k)) (hn : 1 ≤ n ∧ n ≤ 4) (hS : kL N) (hG : kW G) (hq : kM 0 q)
    (hQ : Q (some (iv (mRun n G.2.2.2.1 f N.2.2.2.1.toNat q).2.1)) (CH sb ss T G L O R P (mCq (mRun n G.2.2.2.1 f N.2.2.2.1.toNat q)) B D S N t)) :
    ∀ (m k : Nat) (v7 v8 : AV), k + m = N.2.2.2.1.toNat → AW X (d + 4) 0 0 5 8 [rf 26, rf 45, rf 3, iv n, iv (mRun n G.2.2.2.1 f k q).1, iv (mRun n G.2.2.2.1 f k q).2.1, iv k, v7, v8] [] (CH sb ss T G L O R P (mCq (mRun n G.2.2.2.1 f k q)) B D S N t) Q := by
  have hm := hS.1
  have hfr : ∀ i, 0 ≤ i → i < N.2.2.2.1 → (0 ≤ f i ∧ f i < 32) ∧ 0 ≤ G.2.2.2.1 (f i) ∧ G.2.2.2.1 (f i) ≤ 6 := by
    intro i i0 i1
    have h1 := hS.2.1 (N.2.2.2.1 - 1 - i) (by omega) (by omega)
    rw [← hf i] at h1
    exact ⟨h1, (hG _ h1.1 h1.2).1⟩
  intro m
  induction m with
  | zero =>
    intro k v7 v8 hk
    have e : k = N.2.2.2.1.toNat := by omega
    subst e
    refine aw_tree (I0_ok X _) [(true, 49)] [8] rfl ?_
    dsimp only
    repeat' (first | refine And.intro ?_ ?_ | (refine aImp_e0 ?_; intro _) | (refine aImp_n0 ?_; intro _) | (refine aImp_i ?_; intro _))
    all_goals (try (first | omega | exact bI_01 _ | exact bI_lo _ | exact bI_hi _ | exact bI_hi' _ | exact trivial | exact Or.inl rfl | exact Or.inr rfl | (exfalso; omega)))
    exact hQ
  | succ m ih =>
    intro k v7 v8 hk
    have goal := fun v7 v8 => ih (k + 1) v7 v8 (by omega)
    have hkM := mRun_k (w := G.2.2.2.1) (f := f) hn hq k (fun i i0 i1 => (hfr i i0 (by omega)).2)
    rw [mRun] at goal
    clear hQ ih hq
    generalize mRun n G.2.2.2.1 f k q = p at *
    have hfk := hfr k (by omega) (by omega)
    have efk := hf k
    have hg4 : ∀ i, 0 ≤ i → i < 4 → 0 ≤ p.2.2.1 i ∧ p.2.2.1 i ≤ 1000 := fun i i0 i1 => by
      have := hkM.2.2 i i0 i1
      omega
    have hmi := mMi_r hn hkM
    have hmn := mnN_r hg4 (n - 1).toNat (by omega)
    obtain ⟨gr, g1, g2⟩ := mGa_r (q := p) hn
    have hp1 := hkM.1
    have hp2 := hkM.2.1
    have eg : aUp p.2.2.1 (mGa n p) (mMi n p + G.2.2.2.1 (f k)) (mGa n p) = mMi n p + G.2.2.2.1 (f k) := aUp_s _ _ _
    refine aw_tree (I0_ok X _) [(true, 49)] [8] rfl ?_
    rw [← efk]
    dsimp only
    repeat' (first | refine And.intro ?_ ?_ | (refine aImp_e0 ?_; intro _) | (refine aImp_n0 ?_; intro _) | (refine aImp_i ?_; intro _))
    all_goals (try (first | omega | exact bI_01 _ | exact bI_lo _ | exact bI_hi _ | exact bI_hi' _ | exact trivial | exact Or.inl rfl | exact Or.inr rfl | (exfalso; omega)))
    refine aw_cf0 (c_ffm _ sb ss T G L O R P (mCq p) B D S N t n hn hg4) rfl ?_
    refine aw_tree (I0_ok X _) [(true, 49)] [8] rfl ?_
    dsimp only
    repeat' (first | refine And.intro ?_ ?_ | (refine aImp_e0 ?_; intro _) | (refine aImp_n0 ?_; intro _) | (refine aImp_i ?_; intro _))
    all_goals (try (first | omega | exact bI_01 _ | exact bI_lo _ | exact bI_hi _ | exact bI_hi' _ | exact trivial | exact Or.inl rfl | exact Or.inr rfl | (exfalso; omega)))
    rw [show max p.1 (mnN p.2.2.1 (n - 1).toNat) = mMi n p from rfl]
    refine aw_cf0 (c_ffg _ sb ss T G L O R P (mCq p) B D S N t n (mMi n p) (mGa n p) hn (by unfold inR; omega) gr hg4 g1 g2) rfl ?_
    refine aw_tree (I0_ok X _) [(true, 49)] [8] rfl ?_
    dsimp only
    rw [eg]
    repeat' (first | refine And.intro ?_ ?_ | (refine aImp_e0 ?_; intro _) | (refine aImp_n0 ?_; intro _) | (refine aImp_i ?_; intro _))
    all_goals (try (first | omega | exact bI_01 _ | exact bI_lo _ | exact bI_hi _ | exact bI_hi' _ | exact trivial | exact Or.inl rfl | exact Or.inr rfl | (exfalso; omega)))
    exact goal _ _
theorem c_arrange1 {X : AX} (d : Nat) (sb ss : Nat) (T : TyT) (G : TyG) (L : TyL) (O : TyO) (R : TyR) (P : TyP) (C : TyC) (B D : TyB) (S N : TyS) (t : AH) (n : Int) (f : FN) (hf : ∀ k, f k = N.2.2.1 (N.2.2.2.1 - 1 - k)) (hn : 1 ≤ n ∧ n ≤ 4) (hS : kL N) (hG : kW G) :
    AF X (d + 4) 0 0 5 [rf 26, rf 45, rf 3, iv n] (CH sb ss T G L O R P C B D S N t) (some (iv (mRun n G.2.2.2.1 f N.2.2.2.1.toNat (0, 0, fil C.2.2.2 0 4, fil C.1 (-1) 32, fil C.2.1 (-1) 32, fil C.2.2.1 (-1) 32)).2.1)) (CH sb ss T G L O R P (mCq (mRun n G.2.2.2.1 f N.2.2.2.1.toNat (0, 0, fil C.2.2.2 0 4, fil C.1 (-1) 32, fil C.2.1 (-1) 32, fil C.2.2.1 (-1) 32))) B D S N t) := by
  have hm := hS.1
  refine aw_tree (I0_ok X _) [(true, 49)] [8] rfl ?_
  refine aw_cf0 (c_cclear _ sb ss T G L O R P C B D S N t) rfl ?_
  refine aw_tree (I0_ok X _) [(true, 49)] [8] rfl ?_
  exact c_arr_loop1 d sb ss T G L O R P B D S N t n (0, 0, fil C.2.2.2 0 4, fil C.1 (-1) 32, fil C.2.1 (-1) 32, fil C.2.2.1 (-1) 32) f hf hn hS hG ⟨⟨Int.le_refl 0, Int.le_refl 0⟩, ⟨Int.le_refl 0, Int.le_refl 0⟩, fun i i0 i1 => by
    show 0 ≤ fil C.2.2.2 0 4 i ∧ fil C.2.2.2 0 4 i ≤ 0
    rw [fil_lt 4 i i0 i1]; omega⟩ ⟨rfl, rfl⟩ N.2.2.2.1.toNat 0 jk jk (by omega)
theorem c_morning1 {X : AX} (d : Nat) (sb : Nat) (T : TyT) (G : TyG) (L : TyL) (O : TyO) (R : TyR) (P : TyP) (C : TyC) (B D : TyB) (S N : TyS) (t : AH) (n sh : Int) (f : FN) {Q : AQ} (hf : ∀ k, f k = N.2.2.1 (N.2.2.2.1 - 1 - k)) (hn : inR n) (hsh : inR sh) (hS : kL N) (hG : kW G)
    (h1 : ¬ ((1 ≤ n ∧ n ≤ 4) ∧ (0 ≤ sh ∧ sh ≤ 2000) ∧ N.2.2.2.1 ≠ 0) → Q (some (iv (-10000))) (CH sb 1 T G L O R P C B D S N t))
    (h2 : (1 ≤ n ∧ n ≤ 4) ∧ (0 ≤ sh ∧ sh ≤ 2000) ∧ N.2.2.2.1 ≠ 0 → Q (some (iv (sh - (mRun n G.2.2.2.1 f N.2.2.2.1.toNat (0, 0, fil C.2.2.2 0 4, fil C.1 (-1) 32, fil C.2.1 (-1) 32, fil C.2.2.1 (-1) 32)).2.1))) (CH sb 1 T G L O R P (mCq (mRun n G.2.2.2.1 f N.2.2.2.1.toNat (0, 0, fil C.2.2.2 0 4, fil C.1 (-1) 32, fil C.2.1 (-1) 32, fil C.2.2.1 (-1) 32))) B D S N t)) :
    AW X (d + 5) 0 0 97 0 (aEntry 97 [rf 0, iv n, iv sh]) [] (CH sb 1 T G L O R P C B D S N t) Q := by
  unfold inR at hn hsh
  have hm := hS.1
  refine aw_tree (I0_ok X _) [(true, 49)] [] rfl ?_
  repeat' (first | refine And.intro ?_ ?_ | (refine aImp_e0 ?_; intro _) | (refine aImp_n0 ?_; intro _) | (refine aImp_i ?_; intro _))
  all_goals (try (first | omega | exact bI_01 _ | exact bI_lo _ | exact bI_hi _ | exact bI_hi' _ | exact trivial | exact Or.inl rfl | exact Or.inr rfl | (exfalso; omega)))
  all_goals first
    | exact h1 (by omega)
    | (have q := h2 (by omega)
       refine aw_cf0 (c_arrange1 _ sb 1 T G L O R P C B D S N t n f hf (by omega) hS hG) rfl ?_
       refine aw_tree (I0_ok X _) [(true, 49)] [] rfl ?_
       exact q)

def lnR (S : TyS) (n : Int) : Prop := ∀ i, 0 ≤ i → i < S.2.2.2.1 → 0 ≤ S.1 (S.2.2.1 i) ∧ S.1 (S.2.2.1 i) < n
def hdC (mR : TyMR) (S : TyS) (G : TyG) (h g : Int) : Prop := bfC S G h g ∧ mR.2.2.2.2.1 < clC mR S G h g
theorem c_isBefore0 {X : AX} (d : Nat) (sb ss : Nat) (T : TyT) (G : TyG) (L : TyL) (O : TyO) (R : TyR) (P : TyP) (C : TyC) (B D : TyB) (S N : TyS) (t : AH) (h g : Int) (hS : kL S) (hG : kW G) (hh : 0 ≤ h ∧ h < 32) (hg : 0 ≤ g ∧ g < 32) :
    AF X (d + 3) 0 0 72 [iv h, iv g, rf 41, rf 3] (CH sb ss T G L O R P C B D S N t) (some (iv (bI (bfC S G h g)))) (CH sb ss T G L O R P C B D S N t) := by
  have a1 := hS.2.2 h hh.1 hh.2
  have a2 := hS.2.2 g hg.1 hg.2
  have w1 := (hG h hh.1 hh.2).1
  have w2 := (hG g hg.1 hg.2).1
  unfold bfC
  refine aw_tree (I0_ok X _) [(true, 49)] [] rfl ?_
  repeat' (first | refine And.intro ?_ ?_ | (refine aImp_e0 ?_; intro _) | (refine aImp_n0 ?_; intro _) | (refine aImp_i ?_; intro _))
  all_goals (try (first | omega | exact bI_01 _ | exact bI_lo _ | exact bI_hi _ | exact bI_hi' _ | exact trivial | exact Or.inl rfl | exact Or.inr rfl | (exfalso; omega)))
  all_goals first
    | rfl
    | exact congrArg (fun z => some (iv z)) (bI_congr (by omega))
    | rw [bI_f (by omega)]
set_option maxRecDepth 100000 in
theorem c_clearFrom0 {X : AX} (d : Nat) (sb ss : Nat) (T : TyT) (G : TyG) (L : TyL) (O : TyO) (R : TyR) (P : TyP) (C : TyC) (B D : TyB) (S N : TyS) (bm : AC24) (β : List TyBn) (mR : TyMR) (h g : Int) (hS : kL S) (hG : kW G) (hH : rH L β mR) (hh : 0 ≤ h ∧ h < 32) (hg : 0 ≤ g ∧ g < 32) (h0 : 0 ≤ S.1 h) (hlt : S.1 h < S.1 g) (h1 : S.1 g < mR.2.2.2.1) :
    AF X (d + 4) 0 0 73 [iv h, iv g, rf 41, rf 3, rf 12] (CH sb ss T G L O R P C B D S N (MV bm (BH 73 β))) (some (iv (clC mR S G h g))) (CH sb ss T G L O R P C B D S N (MV bm (BH 73 β))) := by
  obtain ⟨b1, b2, b3, b4, b5, b6, b7, hR⟩ := hH
  have hc := hR.1
  have hov := ovC_r (S := S) (h := h) (g := g) hR hG hh hg ⟨h0, by omega⟩ ⟨by omega, h1⟩
  have hfl := far_lt' hR h0 hlt h1
  have hfa := hR.2.1 (S.1 g) (by omega) h1
  have hfb := hR.2.1 (S.1 h) h0 (by omega)
  obtain ⟨r, er⟩ : ∃ r : Nat, S.1 h = r := ⟨(S.1 h).toNat, by omega⟩
  obtain ⟨s, es⟩ : ∃ s : Nat, S.1 g = s := ⟨(S.1 g).toNat, by omega⟩
  obtain ⟨x, hx⟩ : ∃ x, β[r]? = some x := ⟨_, List.getElem?_eq_getElem (show r < β.length from by omega)⟩
  obtain ⟨y, hy⟩ : ∃ y, β[s]? = some y := ⟨_, List.getElem?_eq_getElem (show s < β.length from by omega)⟩
  obtain ⟨-, -, x3, x4⟩ := b4 r x hx
  obtain ⟨-, -, y3, y4⟩ := b4 s y hy
  have e1 : L.1 (S.1 h) = some (73 + 4 * r) := by rw [er]; exact b2 r (by omega)
  have e2 : L.1 (S.1 g) = some (73 + 4 * s) := by rw [es]; exact b2 s (by omega)
  unfold clC
  unfold ovC at hov ⊢
  simp only [er, es, ← x3, ← x4, ← y3, ← y4] at hov hfl hfa hfb ⊢
  refine aw_tree (I0_ok X _) [(true, 49)] [] rfl ?_
  repeat' (first | refine And.intro ?_ ?_ | (refine aImp_e0 ?_; intro _) | (refine aImp_n0 ?_; intro _) | (refine aImp_i ?_; intro _))
  all_goals (try (first | omega | exact bI_01 _ | exact bI_lo _ | exact bI_hi _ | exact bI_hi' _ | exact trivial | exact Or.inl rfl | exact Or.inr rfl | (exfalso; omega)))
  refine aw_cf0 (c_benchAt _ sb ss T G L O R P C B D S N (MV bm (BH 73 β)) (S.1 h) (73 + 4 * r) ⟨h0, by omega⟩ (by omega) e1) rfl ?_
  refine aw_tree (I0_ok X _) [(true, 49)] [] rfl ?_
  repeat' (first | refine And.intro ?_ ?_ | (refine aImp_e0 ?_; intro _) | (refine aImp_n0 ?_; intro _) | (refine aImp_i ?_; intro _))
  all_goals (try (first | omega | exact bI_01 _ | exact bI_lo _ | exact bI_hi _ | exact bI_hi' _ | exact trivial | exact Or.inl rfl | exact Or.inr rfl | (exfalso; omega)))
  refine aw_cf0 (c_benchAt _ sb ss T G L O R P C B D S N (MV bm (BH 73 β)) (S.1 g) (73 + 4 * s) ⟨by omega, by omega⟩ (by omega) e2) rfl ?_
  refine aw_tree (I0_ok X _) [(true, 49)] [19] rfl ?_
  refine aw_get rfl (bn_at (CA sb ss T G L O R P C B D S N) bm β s y hy) rfl ?_
  refine aw_tree (I0_ok X _) [(true, 49)] [21] rfl ?_
  refine aw_get rfl (bn_at (CA sb ss T G L O R P C B D S N) bm β r x hx) rfl ?_
  refine aw_tree (I0_ok X _) [(true, 49)] [26] rfl ?_
  repeat' (first | refine And.intro ?_ ?_ | (refine aImp_e0 ?_; intro _) | (refine aImp_n0 ?_; intro _) | (refine aImp_i ?_; intro _))
  all_goals (try (first | omega | exact bI_01 _ | exact bI_lo _ | exact bI_hi _ | exact bI_hi' _ | exact trivial | exact Or.inl rfl | exact Or.inr rfl | (exfalso; omega)))
  refine aw_get rfl (bn_at (CA sb ss T G L O R P C B D S N) bm β r x hx) rfl ?_
  refine aw_tree (I0_ok X _) [(true, 49)] [36] rfl ?_
  repeat' (first | refine And.intro ?_ ?_ | (refine aImp_e0 ?_; intro _) | (refine aImp_n0 ?_; intro _) | (refine aImp_i ?_; intro _))
  all_goals (try (first | omega | exact bI_01 _ | exact bI_lo _ | exact bI_hi _ | exact bI_hi' _ | exact trivial | exact Or.inl rfl | exact Or.inr rfl | (exfalso; omega)))
  refine aw_get rfl (bn_at (CA sb ss T G L O R P C B D S N) bm β s y hy) rfl ?_
  refine aw_tree (I0_ok X _) [(true, 49)] [45] rfl ?_
  repeat' (first | refine And.intro ?_ ?_ | (refine aImp_e0 ?_; intro _) | (refine aImp_n0 ?_; intro _) | (refine aImp_i ?_; intro _))
  all_goals (try (first | omega | exact bI_01 _ | exact bI_lo _ | exact bI_hi _ | exact bI_hi' _ | exact trivial | exact Or.inl rfl | exact Or.inr rfl | (exfalso; omega)))
  refine aw_get rfl (bn_at (CA sb ss T G L O R P C B D S N) bm β s y hy) rfl ?_
  refine aw_tree (I0_ok X _) [(true, 49)] [49] rfl ?_
  refine aw_get rfl (bn_at (CA sb ss T G L O R P C B D S N) bm β r x hx) rfl ?_
  refine aw_tree (I0_ok X _) [(true, 49)] [56] rfl ?_
  refine aw_get rfl (bn_at (CA sb ss T G L O R P C B D S N) bm β s y hy) rfl ?_
  refine aw_tree (I0_ok X _) [(true, 49)] [58] rfl ?_
  refine aw_get rfl (bn_at (CA sb ss T G L O R P C B D S N) bm β r x hx) rfl ?_
  refine aw_tree (I0_ok X _) [(true, 49)] [] rfl ?_
  refine aw_cf0 (s_floorDiv _ _ _ _ (by omega) (by omega)) rfl ?_
  refine aw_tree (I0_ok X _) [(true, 49)] [] rfl ?_
  exact ⟨rfl, rfl⟩
theorem c_isHiding0 {X : AX} (d : Nat) (sb ss : Nat) (T : TyT) (G : TyG) (L : TyL) (O : TyO) (R : TyR) (P : TyP) (C : TyC) (B D : TyB) (S N : TyS) (bm : AC24) (β : List TyBn) (mR : TyMR) (h g : Int) (hS : kL S) (hG : kW G) (hH : rH L β mR) (hh : 0 ≤ h ∧ h < 32) (hg : 0 ≤ g ∧ g < 32) (h0 : 0 ≤ S.1 h) (h1 : S.1 g < mR.2.2.2.1) :
    AF X (d + 5) 0 0 71 [iv h, iv g, rf 41, rf 3, rf 12] (CH sb ss T G L O R P C B D S N (MV bm (BH 73 β))) (some (iv (bI (hdC mR S G h g)))) (CH sb ss T G L O R P C B D S N (MV bm (BH 73 β))) := by
  refine aw_tree (I0_ok X _) [(true, 49)] [] rfl ?_
  refine aw_cf0 (c_isBefore0 _ sb ss T G L O R P C B D S N (MV bm (BH 73 β)) h g hS hG hh hg) rfl ?_
  by_cases hb : bfC S G h g
  · rw [bI_t hb]
    have hlt : S.1 h < S.1 g := hb.1
    have hR := hH.2.2.2.2.2.2.2
    have hst := hR.2.2.2.1
    have e5 := hH.2.2.2.2.1
    have hov := ovC_r (S := S) (h := h) (g := g) hR hG hh hg ⟨h0, by omega⟩ ⟨by omega, h1⟩
    have hcl := clC_r (far_lt' hR h0 hlt h1) hov
    refine aw_tree (I0_ok X _) [(true, 49)] [] rfl ?_
    repeat' (first | refine And.intro ?_ ?_ | (refine aImp_e0 ?_; intro _) | (refine aImp_n0 ?_; intro _) | (refine aImp_i ?_; intro _))
    all_goals (try (first | omega | exact bI_01 _ | exact bI_lo _ | exact bI_hi _ | exact bI_hi' _ | exact trivial | exact Or.inl rfl | exact Or.inr rfl | (exfalso; omega)))
    refine aw_cf0 (c_clearFrom0 _ sb ss T G L O R P C B D S N bm β mR h g hS hG hH hh hg h0 hlt h1) rfl ?_
    refine aw_tree (I0_ok X _) [(true, 49)] [] rfl ?_
    repeat' (first | refine And.intro ?_ ?_ | (refine aImp_e0 ?_; intro _) | (refine aImp_n0 ?_; intro _) | (refine aImp_i ?_; intro _))
    all_goals (try (first | omega | exact bI_01 _ | exact bI_lo _ | exact bI_hi _ | exact bI_hi' _ | exact trivial | exact Or.inl rfl | exact Or.inr rfl | (exfalso; omega)))
    all_goals first
      | rfl
      | (rw [bI_f (fun z => by have := z.2; omega)])
      | (rw [bI_t ⟨hb, by omega⟩])
  · rw [bI_f hb, bI_f (fun z => hb z.1)]
    refine aw_tree (I0_ok X _) [(true, 49)] [] rfl ?_
    repeat' (first | refine And.intro ?_ ?_ | (refine aImp_e0 ?_; intro _) | (refine aImp_n0 ?_; intro _) | (refine aImp_i ?_; intro _))
    all_goals (try (first | omega | exact bI_01 _ | exact bI_lo _ | exact bI_hi _ | exact bI_hi' _ | exact trivial | exact Or.inl rfl | exact Or.inr rfl | (exfalso; omega)))
    all_goals rfl
theorem c_ch_loop0 {X : AX} (d : Nat) (sb ss : Nat) (T : TyT) (G : TyG) (L : TyL) (O : TyO) (R : TyR) (P : TyP) (C : TyC) (B D : TyB) (S N : TyS) (bm : AC24) (β : List TyBn) (mR : TyMR) (g : Int) {Q : AQ} (hS : kL S) (hG : kW G) (hH : rH L β mR) (hl : lnR S mR.2.2.2.1) (hg : 0 ≤ g ∧ g < 32) (h1 : S.1 g < mR.2.2.2.1)
    (hQ : Q (some (iv (smN (fun i => bI (hdC mR S G (S.2.2.1 i) g)) S.2.2.2.1.toNat))) (CH sb ss T G L O R P C B D S N (MV bm (BH 73 β)))) :
    ∀ (m k : Nat), k + m = S.2.2.2.1.toNat → AW X (d + 6) 0 0 67 4 [iv g, rf 41, rf 3, rf 12, iv (smN (fun i => bI (hdC mR S G (S.2.2.1 i) g)) k), iv k] [] (CH sb ss T G L O R P C B D S N (MV bm (BH 73 β))) Q := by
  have hm := hS.1
  intro m
  induction m with
  | zero =>
    intro k hk
    have e : k = S.2.2.2.1.toNat := by omega
    rw [← e] at hQ
    refine aw_tree (I0_ok X _) [(true, 49)] [4] rfl ?_
    repeat' (first | refine And.intro ?_ ?_ | (refine aImp_e0 ?_; intro _) | (refine aImp_n0 ?_; intro _) | (refine aImp_i ?_; intro _))
    all_goals (try (first | omega | exact bI_01 _ | exact bI_lo _ | exact bI_hi _ | exact bI_hi' _ | exact trivial | exact Or.inl rfl | exact Or.inr rfl | (exfalso; omega)))
    exact hQ
  | succ m ih =>
    intro k hk
    have goal := ih (k + 1) (by omega)
    rw [smN] at goal
    have hlk := hS.2.1 k (by omega) (by omega)
    refine aw_tree (I0_ok X _) [(true, 49)] [4] rfl ?_
    repeat' (first | refine And.intro ?_ ?_ | (refine aImp_e0 ?_; intro _) | (refine aImp_n0 ?_; intro _) | (refine aImp_i ?_; intro _))
    all_goals (try (first | omega | exact bI_01 _ | exact bI_lo _ | exact bI_hi _ | exact bI_hi' _ | exact trivial | exact Or.inl rfl | exact Or.inr rfl | (exfalso; omega)))
    refine aw_cf0 (c_isHiding0 _ sb ss T G L O R P C B D S N bm β mR (S.2.2.1 k) g hS hG hH hlk hg (hl k (by omega) (by omega)).1 h1) rfl ?_
    by_cases q : hdC mR S G (S.2.2.1 k) g
    · rw [bI_t q] at goal ⊢
      refine aw_tree (I0_ok X _) [(true, 49)] [4] rfl ?_
      repeat' (first | refine And.intro ?_ ?_ | (refine aImp_e0 ?_; intro _) | (refine aImp_n0 ?_; intro _) | (refine aImp_i ?_; intro _))
      all_goals (try (first | omega | exact bI_01 _ | exact bI_lo _ | exact bI_hi _ | exact bI_hi' _ | exact trivial | exact Or.inl rfl | exact Or.inr rfl | (exfalso; omega)))
      exact goal
    · rw [bI_f q] at goal ⊢
      refine aw_tree (I0_ok X _) [(true, 49)] [4] rfl ?_
      repeat' (first | refine And.intro ?_ ?_ | (refine aImp_e0 ?_; intro _) | (refine aImp_n0 ?_; intro _) | (refine aImp_i ?_; intro _))
      all_goals (try (first | omega | exact bI_01 _ | exact bI_lo _ | exact bI_hi _ | exact bI_hi' _ | exact trivial | exact Or.inl rfl | exact Or.inr rfl | (exfalso; omega)))
      rw [Int.add_zero] at goal
      exact goal
theorem c_countHiders0 {X : AX} (d : Nat) (sb ss : Nat) (T : TyT) (G : TyG) (L : TyL) (O : TyO) (R : TyR) (P : TyP) (C : TyC) (B D : TyB) (S N : TyS) (bm : AC24) (β : List TyBn) (mR : TyMR) (g : Int) (hS : kL S) (hG : kW G) (hH : rH L β mR) (hl : lnR S mR.2.2.2.1) (hg : 0 ≤ g ∧ g < 32) (h1 : S.1 g < mR.2.2.2.1) :
    AF X (d + 6) 0 0 67 [iv g, rf 41, rf 3, rf 12] (CH sb ss T G L O R P C B D S N (MV bm (BH 73 β))) (some (iv (smN (fun i => bI (hdC mR S G (S.2.2.1 i) g)) S.2.2.2.1.toNat))) (CH sb ss T G L O R P C B D S N (MV bm (BH 73 β))) := by
  have hm := hS.1
  refine aw_tree (I0_ok X _) [(true, 49)] [4] rfl ?_
  exact c_ch_loop0 d sb ss T G L O R P C B D S N bm β mR g hS hG hH hl hg h1 ⟨rfl, rfl⟩ S.2.2.2.1.toNat 0 (by omega)
theorem c_fh_loop0 {X : AX} (d : Nat) (sb ss : Nat) (T : TyT) (G : TyG) (L : TyL) (O : TyO) (R : TyR) (P : TyP) (C : TyC) (B D : TyB) (S N : TyS) (bm : AC24) (β : List TyBn) (mR : TyMR) (g kk : Int) {Q : AQ} (hkk : inR kk) (hS : kL S) (hG : kW G) (hH : rH L β mR) (hl : lnR S mR.2.2.2.1) (hg : 0 ≤ g ∧ g < 32) (h1 : S.1 g < mR.2.2.2.1)
    (q1 : (∀ i : Nat, (i : Int) < S.2.2.2.1 → ¬ (hdC mR S G (S.2.2.1 i) g ∧ smN (fun i => bI (hdC mR S G (S.2.2.1 i) g)) i = kk)) → Q (some (iv (-1))) (CH sb ss T G L O R P C B D S N (MV bm (BH 73 β))))
    (q2 : ∀ i : Nat, (i : Int) < S.2.2.2.1 → hdC mR S G (S.2.2.1 i) g → smN (fun i => bI (hdC mR S G (S.2.2.1 i) g)) i = kk → Q (some (iv (S.2.2.1 i))) (CH sb ss T G L O R P C B D S N (MV bm (BH 73 β)))) :
    ∀ (m k : Nat), k + m = S.2.2.2.1.toNat → (∀ i : Nat, i < k → ¬ (hdC mR S G (S.2.2.1 i) g ∧ smN (fun i => bI (hdC mR S G (S.2.2.1 i) g)) i = kk)) → AW X (d + 6) 0 0 68 4 [iv g, iv kk, rf 41, rf 3, rf 12, iv (smN (fun i => bI (hdC mR S G (S.2.2.1 i) g)) k), iv k] [] (CH sb ss T G L O R P C B D S N (MV bm (BH 73 β))) Q := by
  have hm := hS.1
  unfold inR at hkk
  intro m
  induction m with
  | zero =>
    intro k hk hno
    have q := q1 (fun i i1 => hno i (by omega))
    refine aw_tree (I0_ok X _) [(true, 49)] [4] rfl ?_
    repeat' (first | refine And.intro ?_ ?_ | (refine aImp_e0 ?_; intro _) | (refine aImp_n0 ?_; intro _) | (refine aImp_i ?_; intro _))
    all_goals (try (first | omega | exact bI_01 _ | exact bI_lo _ | exact bI_hi _ | exact bI_hi' _ | exact trivial | exact Or.inl rfl | exact Or.inr rfl | (exfalso; omega)))
    exact q
  | succ m ih =>
    intro k hk hno
    have goal := fun (hn : ¬ (hdC mR S G (S.2.2.1 k) g ∧ smN (fun i => bI (hdC mR S G (S.2.2.1 i) g)) k = kk)) => ih (k + 1) (by omega) (fun i i1 => by
      by_cases e : i = k
      · rw [e]; exact hn
      · exact hno i (by omega))
    rw [smN] at goal
    have hlk := hS.2.1 k (by omega) (by omega)
    have h01 := smN_01 (e := fun i => bI (hdC mR S G (S.2.2.1 i) g)) (fun _ => bI_r _) k
    have q := q2 k (by omega)
    refine aw_tree (I0_ok X _) [(true, 49)] [4] rfl ?_
    repeat' (first | refine And.intro ?_ ?_ | (refine aImp_e0 ?_; intro _) | (refine aImp_n0 ?_; intro _) | (refine aImp_i ?_; intro _))
    all_goals (try (first | omega | exact bI_01 _ | exact bI_lo _ | exact bI_hi _ | exact bI_hi' _ | exact trivial | exact Or.inl rfl | exact Or.inr rfl | (exfalso; omega)))
    refine aw_cf0 (c_isHiding0 _ sb ss T G L O R P C B D S N bm β mR (S.2.2.1 k) g hS hG hH hlk hg (hl k (by omega) (by omega)).1 h1) rfl ?_
    by_cases c : hdC mR S G (S.2.2.1 k) g
    · rw [bI_t c] at goal ⊢
      refine aw_tree (I0_ok X _) [(true, 49)] [4] rfl ?_
      repeat' (first | refine And.intro ?_ ?_ | (refine aImp_e0 ?_; intro _) | (refine aImp_n0 ?_; intro _) | (refine aImp_i ?_; intro _))
      all_goals (try (first | omega | exact bI_01 _ | exact bI_lo _ | exact bI_hi _ | exact bI_hi' _ | exact trivial | exact Or.inl rfl | exact Or.inr rfl | (exfalso; omega)))
      · exact goal (fun z => by have := z.2; omega)
      · exact q c (by omega)
    · rw [bI_f c] at goal ⊢
      refine aw_tree (I0_ok X _) [(true, 49)] [4] rfl ?_
      repeat' (first | refine And.intro ?_ ?_ | (refine aImp_e0 ?_; intro _) | (refine aImp_n0 ?_; intro _) | (refine aImp_i ?_; intro _))
      all_goals (try (first | omega | exact bI_01 _ | exact bI_lo _ | exact bI_hi _ | exact bI_hi' _ | exact trivial | exact Or.inl rfl | exact Or.inr rfl | (exfalso; omega)))
      rw [Int.add_zero] at goal
      exact goal (fun z => c z.1)
theorem c_findHider0 {X : AX} (d : Nat) (sb ss : Nat) (T : TyT) (G : TyG) (L : TyL) (O : TyO) (R : TyR) (P : TyP) (C : TyC) (B D : TyB) (S N : TyS) (bm : AC24) (β : List TyBn) (mR : TyMR) (g kk : Int) {Q : AQ} (hkk : inR kk) (hS : kL S) (hG : kW G) (hH : rH L β mR) (hl : lnR S mR.2.2.2.1) (hg : 0 ≤ g ∧ g < 32) (h1 : S.1 g < mR.2.2.2.1)
    (q1 : (∀ i : Nat, (i : Int) < S.2.2.2.1 → ¬ (hdC mR S G (S.2.2.1 i) g ∧ smN (fun i => bI (hdC mR S G (S.2.2.1 i) g)) i = kk)) → Q (some (iv (-1))) (CH sb ss T G L O R P C B D S N (MV bm (BH 73 β))))
    (q2 : ∀ i : Nat, (i : Int) < S.2.2.2.1 → hdC mR S G (S.2.2.1 i) g → smN (fun i => bI (hdC mR S G (S.2.2.1 i) g)) i = kk → Q (some (iv (S.2.2.1 i))) (CH sb ss T G L O R P C B D S N (MV bm (BH 73 β)))) :
    AW X (d + 6) 0 0 68 0 (aEntry 68 [iv g, iv kk, rf 41, rf 3, rf 12]) [] (CH sb ss T G L O R P C B D S N (MV bm (BH 73 β))) Q := by
  have hm := hS.1
  refine aw_tree (I0_ok X _) [(true, 49)] [4] rfl ?_
  exact c_fh_loop0 d sb ss T G L O R P C B D S N bm β mR g kk hkk hS hG hH hl hg h1 q1 q2 S.2.2.2.1.toNat 0 (by omega) (fun i i1 => by omega)
theorem c_isBefore1 {X : AX} (d : Nat) (sb ss : Nat) (T : TyT) (G : TyG) (L : TyL) (O : TyO) (R : TyR) (P : TyP) (C : TyC) (B D : TyB) (S N : TyS) (t : AH) (h g : Int) (hS : kL N) (hG : kW G) (hh : 0 ≤ h ∧ h < 32) (hg : 0 ≤ g ∧ g < 32) :
    AF X (d + 3) 0 0 72 [iv h, iv g, rf 45, rf 3] (CH sb ss T G L O R P C B D S N t) (some (iv (bI (bfC N G h g)))) (CH sb ss T G L O R P C B D S N t) := by
  have a1 := hS.2.2 h hh.1 hh.2
  have a2 := hS.2.2 g hg.1 hg.2
  have w1 := (hG h hh.1 hh.2).1
  have w2 := (hG g hg.1 hg.2).1
  unfold bfC
  refine aw_tree (I0_ok X _) [(true, 49)] [] rfl ?_
  repeat' (first | refine And.intro ?_ ?_ | (refine aImp_e0 ?_; intro _) | (refine aImp_n0 ?_; intro _) | (refine aImp_i ?_; intro _))
  all_goals (try (first | omega | exact bI_01 _ | exact bI_lo _ | exact bI_hi _ | exact bI_hi' _ | exact trivial | exact Or.inl rfl | exact Or.inr rfl | (exfalso; omega)))
  all_goals first
    | rfl
    | exact congrArg (fun z => some (iv z)) (bI_congr (by omega))
    | rw [bI_f (by omega)]
set_option maxRecDepth 100000 in
theorem c_clearFrom1 {X : AX} (d : Nat) (sb ss : Nat) (T : TyT) (G : TyG) (L : TyL) (O : TyO) (R : TyR) (P : TyP) (C : TyC) (B D : TyB) (S N : TyS) (bm : AC24) (β : List TyBn) (mR : TyMR) (h g : Int) (hS : kL N) (hG : kW G) (hH : rH L β mR) (hh : 0 ≤ h ∧ h < 32) (hg : 0 ≤ g ∧ g < 32) (h0 : 0 ≤ N.1 h) (hlt : N.1 h < N.1 g) (h1 : N.1 g < mR.2.2.2.1) :
    AF X (d + 4) 0 0 73 [iv h, iv g, rf 45, rf 3, rf 12] (CH sb ss T G L O R P C B D S N (MV bm (BH 73 β))) (some (iv (clC mR N G h g))) (CH sb ss T G L O R P C B D S N (MV bm (BH 73 β))) := by
  obtain ⟨b1, b2, b3, b4, b5, b6, b7, hR⟩ := hH
  have hc := hR.1
  have hov := ovC_r (S := N) (h := h) (g := g) hR hG hh hg ⟨h0, by omega⟩ ⟨by omega, h1⟩
  have hfl := far_lt' hR h0 hlt h1
  have hfa := hR.2.1 (N.1 g) (by omega) h1
  have hfb := hR.2.1 (N.1 h) h0 (by omega)
  obtain ⟨r, er⟩ : ∃ r : Nat, N.1 h = r := ⟨(N.1 h).toNat, by omega⟩
  obtain ⟨s, es⟩ : ∃ s : Nat, N.1 g = s := ⟨(N.1 g).toNat, by omega⟩
  obtain ⟨x, hx⟩ : ∃ x, β[r]? = some x := ⟨_, List.getElem?_eq_getElem (show r < β.length from by omega)⟩
  obtain ⟨y, hy⟩ : ∃ y, β[s]? = some y := ⟨_, List.getElem?_eq_getElem (show s < β.length from by omega)⟩
  obtain ⟨-, -, x3, x4⟩ := b4 r x hx
  obtain ⟨-, -, y3, y4⟩ := b4 s y hy
  have e1 : L.1 (N.1 h) = some (73 + 4 * r) := by rw [er]; exact b2 r (by omega)
  have e2 : L.1 (N.1 g) = some (73 + 4 * s) := by rw [es]; exact b2 s (by omega)
  unfold clC
  unfold ovC at hov ⊢
  simp only [er, es, ← x3, ← x4, ← y3, ← y4] at hov hfl hfa hfb ⊢
  refine aw_tree (I0_ok X _) [(true, 49)] [] rfl ?_
  repeat' (first | refine And.intro ?_ ?_ | (refine aImp_e0 ?_; intro _) | (refine aImp_n0 ?_; intro _) | (refine aImp_i ?_; intro _))
  all_goals (try (first | omega | exact bI_01 _ | exact bI_lo _ | exact bI_hi _ | exact bI_hi' _ | exact trivial | exact Or.inl rfl | exact Or.inr rfl | (exfalso; omega)))
  refine aw_cf0 (c_benchAt _ sb ss T G L O R P C B D S N (MV bm (BH 73 β)) (N.1 h) (73 + 4 * r) ⟨h0, by omega⟩ (by omega) e1) rfl ?_
  refine aw_tree (I0_ok X _) [(true, 49)] [] rfl ?_
  repeat' (first | refine And.intro ?_ ?_ | (refine aImp_e0 ?_; intro _) | (refine aImp_n0 ?_; intro _) | (refine aImp_i ?_; intro _))
  all_goals (try (first | omega | exact bI_01 _ | exact bI_lo _ | exact bI_hi _ | exact bI_hi' _ | exact trivial | exact Or.inl rfl | exact Or.inr rfl | (exfalso; omega)))
  refine aw_cf0 (c_benchAt _ sb ss T G L O R P C B D S N (MV bm (BH 73 β)) (N.1 g) (73 + 4 * s) ⟨by omega, by omega⟩ (by omega) e2) rfl ?_
  refine aw_tree (I0_ok X _) [(true, 49)] [19] rfl ?_
  refine aw_get rfl (bn_at (CA sb ss T G L O R P C B D S N) bm β s y hy) rfl ?_
  refine aw_tree (I0_ok X _) [(true, 49)] [21] rfl ?_
  refine aw_get rfl (bn_at (CA sb ss T G L O R P C B D S N) bm β r x hx) rfl ?_
  refine aw_tree (I0_ok X _) [(true, 49)] [26] rfl ?_
  repeat' (first | refine And.intro ?_ ?_ | (refine aImp_e0 ?_; intro _) | (refine aImp_n0 ?_; intro _) | (refine aImp_i ?_; intro _))
  all_goals (try (first | omega | exact bI_01 _ | exact bI_lo _ | exact bI_hi _ | exact bI_hi' _ | exact trivial | exact Or.inl rfl | exact Or.inr rfl | (exfalso; omega)))
  refine aw_get rfl (bn_at (CA sb ss T G L O R P C B D S N) bm β r x hx) rfl ?_
  refine aw_tree (I0_ok X _) [(true, 49)] [36] rfl ?_
  repeat' (first | refine And.intro ?_ ?_ | (refine aImp_e0 ?_; intro _) | (refine aImp_n0 ?_; intro _) | (refine aImp_i ?_; intro _))
  all_goals (try (first | omega | exact bI_01 _ | exact bI_lo _ | exact bI_hi _ | exact bI_hi' _ | exact trivial | exact Or.inl rfl | exact Or.inr rfl | (exfalso; omega)))
  refine aw_get rfl (bn_at (CA sb ss T G L O R P C B D S N) bm β s y hy) rfl ?_
  refine aw_tree (I0_ok X _) [(true, 49)] [45] rfl ?_
  repeat' (first | refine And.intro ?_ ?_ | (refine aImp_e0 ?_; intro _) | (refine aImp_n0 ?_; intro _) | (refine aImp_i ?_; intro _))
  all_goals (try (first | omega | exact bI_01 _ | exact bI_lo _ | exact bI_hi _ | exact bI_hi' _ | exact trivial | exact Or.inl rfl | exact Or.inr rfl | (exfalso; omega)))
  refine aw_get rfl (bn_at (CA sb ss T G L O R P C B D S N) bm β s y hy) rfl ?_
  refine aw_tree (I0_ok X _) [(true, 49)] [49] rfl ?_
  refine aw_get rfl (bn_at (CA sb ss T G L O R P C B D S N) bm β r x hx) rfl ?_
  refine aw_tree (I0_ok X _) [(true, 49)] [56] rfl ?_
  refine aw_get rfl (bn_at (CA sb ss T G L O R P C B D S N) bm β s y hy) rfl ?_
  refine aw_tree (I0_ok X _) [(true, 49)] [58] rfl ?_
  refine aw_get rfl (bn_at (CA sb ss T G L O R P C B D S N) bm β r x hx) rfl ?_
  refine aw_tree (I0_ok X _) [(true, 49)] [] rfl ?_
  refine aw_cf0 (s_floorDiv _ _ _ _ (by omega) (by omega)) rfl ?_
  refine aw_tree (I0_ok X _) [(true, 49)] [] rfl ?_
  exact ⟨rfl, rfl⟩
theorem c_isHiding1 {X : AX} (d : Nat) (sb ss : Nat) (T : TyT) (G : TyG) (L : TyL) (O : TyO) (R : TyR) (P : TyP) (C : TyC) (B D : TyB) (S N : TyS) (bm : AC24) (β : List TyBn) (mR : TyMR) (h g : Int) (hS : kL N) (hG : kW G) (hH : rH L β mR) (hh : 0 ≤ h ∧ h < 32) (hg : 0 ≤ g ∧ g < 32) (h0 : 0 ≤ N.1 h) (h1 : N.1 g < mR.2.2.2.1) :
    AF X (d + 5) 0 0 71 [iv h, iv g, rf 45, rf 3, rf 12] (CH sb ss T G L O R P C B D S N (MV bm (BH 73 β))) (some (iv (bI (hdC mR N G h g)))) (CH sb ss T G L O R P C B D S N (MV bm (BH 73 β))) := by
  refine aw_tree (I0_ok X _) [(true, 49)] [] rfl ?_
  refine aw_cf0 (c_isBefore1 _ sb ss T G L O R P C B D S N (MV bm (BH 73 β)) h g hS hG hh hg) rfl ?_
  by_cases hb : bfC N G h g
  · rw [bI_t hb]
    have hlt : N.1 h < N.1 g := hb.1
    have hR := hH.2.2.2.2.2.2.2
    have hst := hR.2.2.2.1
    have e5 := hH.2.2.2.2.1
    have hov := ovC_r (S := N) (h := h) (g := g) hR hG hh hg ⟨h0, by omega⟩ ⟨by omega, h1⟩
    have hcl := clC_r (far_lt' hR h0 hlt h1) hov
    refine aw_tree (I0_ok X _) [(true, 49)] [] rfl ?_
    repeat' (first | refine And.intro ?_ ?_ | (refine aImp_e0 ?_; intro _) | (refine aImp_n0 ?_; intro _) | (refine aImp_i ?_; intro _))
    all_goals (try (first | omega | exact bI_01 _ | exact bI_lo _ | exact bI_hi _ | exact bI_hi' _ | exact trivial | exact Or.inl rfl | exact Or.inr rfl | (exfalso; omega)))
    refine aw_cf0 (c_clearFrom1 _ sb ss T G L O R P C B D S N bm β mR h g hS hG hH hh hg h0 hlt h1) rfl ?_
    refine aw_tree (I0_ok X _) [(true, 49)] [] rfl ?_
    repeat' (first | refine And.intro ?_ ?_ | (refine aImp_e0 ?_; intro _) | (refine aImp_n0 ?_; intro _) | (refine aImp_i ?_; intro _))
    all_goals (try (first | omega | exact bI_01 _ | exact bI_lo _ | exact bI_hi _ | exact bI_hi' _ | exact trivial | exact Or.inl rfl | exact Or.inr rfl | (exfalso; omega)))
    all_goals first
      | rfl
      | (rw [bI_f (fun z => by have := z.2; omega)])
      | (rw [bI_t ⟨hb, by omega⟩])
  · rw [bI_f hb, bI_f (fun z => hb z.1)]
    refine aw_tree (I0_ok X _) [(true, 49)] [] rfl ?_
    repeat' (first | refine And.intro ?_ ?_ | (refine aImp_e0 ?_; intro _) | (refine aImp_n0 ?_; intro _) | (refine aImp_i ?_; intro _))
    all_goals (try (first | omega | exact bI_01 _ | exact bI_lo _ | exact bI_hi _ | exact bI_hi' _ | exact trivial | exact Or.inl rfl | exact Or.inr rfl | (exfalso; omega)))
    all_goals rfl
theorem c_ch_loop1 {X : AX} (d : Nat) (sb ss : Nat) (T : TyT) (G : TyG) (L : TyL) (O : TyO) (R : TyR) (P : TyP) (C : TyC) (B D : TyB) (S N : TyS) (bm : AC24) (β : List TyBn) (mR : TyMR) (g : Int) {Q : AQ} (hS : kL N) (hG : kW G) (hH : rH L β mR) (hl : lnR N mR.2.2.2.1) (hg : 0 ≤ g ∧ g < 32) (h1 : N.1 g < mR.2.2.2.1)
    (hQ : Q (some (iv (smN (fun i => bI (hdC mR N G (N.2.2.1 i) g)) N.2.2.2.1.toNat))) (CH sb ss T G L O R P C B D S N (MV bm (BH 73 β)))) :
    ∀ (m k : Nat), k + m = N.2.2.2.1.toNat → AW X (d + 6) 0 0 67 4 [iv g, rf 45, rf 3, rf 12, iv (smN (fun i => bI (hdC mR N G (N.2.2.1 i) g)) k), iv k] [] (CH sb ss T G L O R P C B D S N (MV bm (BH 73 β))) Q := by
  have hm := hS.1
  intro m
  induction m with
  | zero =>
    intro k hk
    have e : k = N.2.2.2.1.toNat := by omega
    rw [← e] at hQ
    refine aw_tree (I0_ok X _) [(true, 49)] [4] rfl ?_
    repeat' (first | refine And.intro ?_ ?_ | (refine aImp_e0 ?_; intro _) | (refine aImp_n0 ?_; intro _) | (refine aImp_i ?_; intro _))
    all_goals (try (first | omega | exact bI_01 _ | exact bI_lo _ | exact bI_hi _ | exact bI_hi' _ | exact trivial | exact Or.inl rfl | exact Or.inr rfl | (exfalso; omega)))
    exact hQ
  | succ m ih =>
    intro k hk
    have goal := ih (k + 1) (by omega)
    rw [smN] at goal
    have hlk := hS.2.1 k (by omega) (by omega)
    refine aw_tree (I0_ok X _) [(true, 49)] [4] rfl ?_
    repeat' (first | refine And.intro ?_ ?_ | (refine aImp_e0 ?_; intro _) | (refine aImp_n0 ?_; intro _) | (refine aImp_i ?_; intro _))
    all_goals (try (first | omega | exact bI_01 _ | exact bI_lo _ | exact bI_hi _ | exact bI_hi' _ | exact trivial | exact Or.inl rfl | exact Or.inr rfl | (exfalso; omega)))
    refine aw_cf0 (c_isHiding1 _ sb ss T G L O R P C B D S N bm β mR (N.2.2.1 k) g hS hG hH hlk hg (hl k (by omega) (by omega)).1 h1) rfl ?_
    by_cases q : hdC mR N G (N.2.2.1 k) g
    · rw [bI_t q] at goal ⊢
      refine aw_tree (I0_ok X _) [(true, 49)] [4] rfl ?_
      repeat' (first | refine And.intro ?_ ?_ | (refine aImp_e0 ?_; intro _) | (refine aImp_n0 ?_; intro _) | (refine aImp_i ?_; intro _))
      all_goals (try (first | omega | exact bI_01 _ | exact bI_lo _ | exact bI_hi _ | exact bI_hi' _ | exact trivial | exact Or.inl rfl | exact Or.inr rfl | (exfalso; omega)))
      exact goal
    · rw [bI_f q] at goal ⊢
      refine aw_tree (I0_ok X _) [(true, 49)] [4] rfl ?_
      repeat' (first | refine And.intro ?_ ?_ | (refine aImp_e0 ?_; intro _) | (refine aImp_n0 ?_; intro _) | (refine aImp_i ?_; intro _))
      all_goals (try (first | omega | exact bI_01 _ | exact bI_lo _ | exact bI_hi _ | exact bI_hi' _ | exact trivial | exact Or.inl rfl | exact Or.inr rfl | (exfalso; omega)))
      rw [Int.add_zero] at goal
      exact goal
theorem c_countHiders1 {X : AX} (d : Nat) (sb ss : Nat) (T : TyT) (G : TyG) (L : TyL) (O : TyO) (R : TyR) (P : TyP) (C : TyC) (B D : TyB) (S N : TyS) (bm : AC24) (β : List TyBn) (mR : TyMR) (g : Int) (hS : kL N) (hG : kW G) (hH : rH L β mR) (hl : lnR N mR.2.2.2.1) (hg : 0 ≤ g ∧ g < 32) (h1 : N.1 g < mR.2.2.2.1) :
    AF X (d + 6) 0 0 67 [iv g, rf 45, rf 3, rf 12] (CH sb ss T G L O R P C B D S N (MV bm (BH 73 β))) (some (iv (smN (fun i => bI (hdC mR N G (N.2.2.1 i) g)) N.2.2.2.1.toNat))) (CH sb ss T G L O R P C B D S N (MV bm (BH 73 β))) := by
  have hm := hS.1
  refine aw_tree (I0_ok X _) [(true, 49)] [4] rfl ?_
  exact c_ch_loop1 d sb ss T G L O R P C B D S N bm β mR g hS hG hH hl hg h1 ⟨rfl, rfl⟩ N.2.2.2.1.toNat 0 (by omega)
theorem c_fh_loop1 {X : AX} (d : Nat) (sb ss : Nat) (T : TyT) (G : TyG) (L : TyL) (O : TyO) (R : TyR) (P : TyP) (C : TyC) (B D : TyB) (S N : TyS) (bm : AC24) (β : List TyBn) (mR : TyMR) (g kk : Int) {Q : AQ} (hkk : inR kk) (hS : kL N) (hG : kW G) (hH : rH L β mR) (hl : lnR N mR.2.2.2.1) (hg : 0 ≤ g ∧ g < 32) (h1 : N.1 g < mR.2.2.2.1)
    (q1 : (∀ i : Nat, (i : Int) < N.2.2.2.1 → ¬ (hdC mR N G (N.2.2.1 i) g ∧ smN (fun i => bI (hdC mR N G (N.2.2.1 i) g)) i = kk)) → Q (some (iv (-1))) (CH sb ss T G L O R P C B D S N (MV bm (BH 73 β))))
    (q2 : ∀ i : Nat, (i : Int) < N.2.2.2.1 → hdC mR N G (N.2.2.1 i) g → smN (fun i => bI (hdC mR N G (N.2.2.1 i) g)) i = kk → Q (some (iv (N.2.2.1 i))) (CH sb ss T G L O R P C B D S N (MV bm (BH 73 β)))) :
    ∀ (m k : Nat), k + m = N.2.2.2.1.toNat → (∀ i : Nat, i < k → ¬ (hdC mR N G (N.2.2.1 i) g ∧ smN (fun i => bI (hdC mR N G (N.2.2.1 i) g)) i = kk)) → AW X (d + 6) 0 0 68 4 [iv g, iv kk, rf 45, rf 3, rf 12, iv (smN (fun i => bI (hdC mR N G (N.2.2.1 i) g)) k), iv k] [] (CH sb ss T G L O R P C B D S N (MV bm (BH 73 β))) Q := by
  have hm := hS.1
  unfold inR at hkk
  intro m
  induction m with
  | zero =>
    intro k hk hno
    have q := q1 (fun i i1 => hno i (by omega))
    refine aw_tree (I0_ok X _) [(true, 49)] [4] rfl ?_
    repeat' (first | refine And.intro ?_ ?_ | (refine aImp_e0 ?_; intro _) | (refine aImp_n0 ?_; intro _) | (refine aImp_i ?_; intro _))
    all_goals (try (first | omega | exact bI_01 _ | exact bI_lo _ | exact bI_hi _ | exact bI_hi' _ | exact trivial | exact Or.inl rfl | exact Or.inr rfl | (exfalso; omega)))
    exact q
  | succ m ih =>
    intro k hk hno
    have goal := fun (hn : ¬ (hdC mR N G (N.2.2.1 k) g ∧ smN (fun i => bI (hdC mR N G (N.2.2.1 i) g)) k = kk)) => ih (k + 1) (by omega) (fun i i1 => by
      by_cases e : i = k
      · rw [e]; exact hn
      · exact hno i (by omega))
    rw [smN] at goal
    have hlk := hS.2.1 k (by omega) (by omega)
    have h01 := smN_01 (e := fun i => bI (hdC mR N G (N.2.2.1 i) g)) (fun _ => bI_r _) k
    have q := q2 k (by omega)
    refine aw_tree (I0_ok X _) [(true, 49)] [4] rfl ?_
    repeat' (first | refine And.intro ?_ ?_ | (refine aImp_e0 ?_; intro _) | (refine aImp_n0 ?_; intro _) | (refine aImp_i ?_; intro _))
    all_goals (try (first | omega | exact bI_01 _ | exact bI_lo _ | exact bI_hi _ | exact bI_hi' _ | exact trivial | exact Or.inl rfl | exact Or.inr rfl | (exfalso; omega)))
    refine aw_cf0 (c_isHiding1 _ sb ss T G L O R P C B D S N bm β mR (N.2.2.1 k) g hS hG hH hlk hg (hl k (by omega) (by omega)).1 h1) rfl ?_
    by_cases c : hdC mR N G (N.2.2.1 k) g
    · rw [bI_t c] at goal ⊢
      refine aw_tree (I0_ok X _) [(true, 49)] [4] rfl ?_
      repeat' (first | refine And.intro ?_ ?_ | (refine aImp_e0 ?_; intro _) | (refine aImp_n0 ?_; intro _) | (refine aImp_i ?_; intro _))
      all_goals (try (first | omega | exact bI_01 _ | exact bI_lo _ | exact bI_hi _ | exact bI_hi' _ | exact trivial | exact Or.inl rfl | exact Or.inr rfl | (exfalso; omega)))
      · exact goal (fun z => by have := z.2; omega)
      · exact q c (by omega)
    · rw [bI_f c] at goal ⊢
      refine aw_tree (I0_ok X _) [(true, 49)] [4] rfl ?_
      repeat' (first | refine And.intro ?_ ?_ | (refine aImp_e0 ?_; intro _) | (refine aImp_n0 ?_; intro _) | (refine aImp_i ?_; intro _))
      all_goals (try (first | omega | exact bI_01 _ | exact bI_lo _ | exact bI_hi _ | exact bI_hi' _ | exact trivial | exact Or.inl rfl | exact Or.inr rfl | (exfalso; omega)))
      rw [Int.add_zero] at goal
      exact goal (fun z => c z.1)
theorem c_findHider1 {X : AX} (d : Nat) (sb ss : Nat) (T : TyT) (G : TyG) (L : TyL) (O : TyO) (R : TyR) (P : TyP) (C : TyC) (B D : TyB) (S N : TyS) (bm : AC24) (β : List TyBn) (mR : TyMR) (g kk : Int) {Q : AQ} (hkk : inR kk) (hS : kL N) (hG : kW G) (hH : rH L β mR) (hl : lnR N mR.2.2.2.1) (hg : 0 ≤ g ∧ g < 32) (h1 : N.1 g < mR.2.2.2.1)
    (q1 : (∀ i : Nat, (i : Int) < N.2.2.2.1 → ¬ (hdC mR N G (N.2.2.1 i) g ∧ smN (fun i => bI (hdC mR N G (N.2.2.1 i) g)) i = kk)) → Q (some (iv (-1))) (CH sb ss T G L O R P C B D S N (MV bm (BH 73 β))))
    (q2 : ∀ i : Nat, (i : Int) < N.2.2.2.1 → hdC mR N G (N.2.2.1 i) g → smN (fun i => bI (hdC mR N G (N.2.2.1 i) g)) i = kk → Q (some (iv (N.2.2.1 i))) (CH sb ss T G L O R P C B D S N (MV bm (BH 73 β)))) :
    AW X (d + 6) 0 0 68 0 (aEntry 68 [iv g, iv kk, rf 45, rf 3, rf 12]) [] (CH sb ss T G L O R P C B D S N (MV bm (BH 73 β))) Q := by
  have hm := hS.1
  refine aw_tree (I0_ok X _) [(true, 49)] [4] rfl ?_
  exact c_fh_loop1 d sb ss T G L O R P C B D S N bm β mR g kk hkk hS hG hH hl hg h1 q1 q2 N.2.2.2.1.toNat 0 (by omega) (fun i i1 => by omega)

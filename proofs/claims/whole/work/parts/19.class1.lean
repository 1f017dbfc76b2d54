def tpC (v : Int) (q : TyT) : TyT := (aUp (aUp (aUp (aUp q.1 q.2 (bByte (bByte (bUshr v 24)))) (q.2 + 1) (bByte (bByte (bUshr v 16)))) (q.2 + 1 + 1) (bByte (bByte (bUshr v 8)))) (q.2 + 1 + 1 + 1) (bByte (bByte (bUshr v 0))), q.2 + 1 + 1 + 1 + 1)
set_option maxRecDepth 100000 in
theorem c_append {X : AX} (d : Nat) (sb ss : Nat) (T : TyT) (G : TyG) (L : TyL) (O : TyO) (R : TyR) (P : TyP) (C : TyC) (B D : TyB) (S N : TyS) (t : AH) (v : Int) (hT : 0 ≤ T.2 ∧ T.2 ≤ 196) : AF X (d + 2) 0 0 75 [rf 1, iv v] (CH sb ss T G L O R P C B D S N t) none (CH sb ss (tpC v T) G L O R P C B D S N t) := by
  refine aw_tree (I0_ok X _) [(true, 49)] [2] rfl ?_
  refine aw_tree (I0_ok X _) [(true, 49)] [2] rfl ?_
  repeat' (first | refine And.intro ?_ ?_ | (refine aImp_e0 ?_; intro _) | (refine aImp_n0 ?_; intro _) | (refine aImp_i ?_; intro _))
  all_goals (try (first | omega | exact bI_01 _ | exact bI_lo _ | exact bI_hi _ | exact bI_hi' _ | exact trivial | exact Or.inl rfl | exact Or.inr rfl | (exfalso; omega)))
  refine aw_tree (I0_ok X _) [(true, 49)] [2] rfl ?_
  repeat' (first | refine And.intro ?_ ?_ | (refine aImp_e0 ?_; intro _) | (refine aImp_n0 ?_; intro _) | (refine aImp_i ?_; intro _))
  all_goals (try (first | omega | exact bI_01 _ | exact bI_lo _ | exact bI_hi _ | exact bI_hi' _ | exact trivial | exact Or.inl rfl | exact Or.inr rfl | (exfalso; omega)))
  refine aw_tree (I0_ok X _) [(true, 49)] [2] rfl ?_
  repeat' (first | refine And.intro ?_ ?_ | (refine aImp_e0 ?_; intro _) | (refine aImp_n0 ?_; intro _) | (refine aImp_i ?_; intro _))
  all_goals (try (first | omega | exact bI_01 _ | exact bI_lo _ | exact bI_hi _ | exact bI_hi' _ | exact trivial | exact Or.inl rfl | exact Or.inr rfl | (exfalso; omega)))
  refine aw_tree (I0_ok X _) [(true, 49)] [2] rfl ?_
  repeat' (first | refine And.intro ?_ ?_ | (refine aImp_e0 ?_; intro _) | (refine aImp_n0 ?_; intro _) | (refine aImp_i ?_; intro _))
  all_goals (try (first | omega | exact bI_01 _ | exact bI_lo _ | exact bI_hi _ | exact bI_hi' _ | exact trivial | exact Or.inl rfl | exact Or.inr rfl | (exfalso; omega)))
  refine aw_tree (I0_ok X _) [(true, 49)] [2] rfl ?_
  repeat' (first | refine And.intro ?_ ?_ | (refine aImp_e0 ?_; intro _) | (refine aImp_n0 ?_; intro _) | (refine aImp_i ?_; intro _))
  all_goals (try (first | omega | exact bI_01 _ | exact bI_lo _ | exact bI_hi _ | exact bI_hi' _ | exact trivial | exact Or.inl rfl | exact Or.inr rfl | (exfalso; omega)))
  all_goals rfl
theorem c_byteAt {X : AX} (d : Nat) (sb ss : Nat) (T : TyT) (G : TyG) (L : TyL) (O : TyO) (R : TyR) (P : TyP) (C : TyC) (B D : TyB) (S N : TyS) (t : AH) (i : Int) (hi : inR i) (hT : 0 ≤ T.2 ∧ T.2 ≤ 200) : AF X (d + 3) 0 0 76 [rf 1, iv i] (CH sb ss T G L O R P C B D S N t) (some (iv (if 0 ≤ i ∧ i < T.2 then bAnd (T.1 i) 255 else -1))) (CH sb ss T G L O R P C B D S N t) := by
  unfold inR at hi
  refine aw_tree (I0_ok X _) [(true, 49)] [] rfl ?_
  repeat' (first | refine And.intro ?_ ?_ | (refine aImp_e0 ?_; intro _) | (refine aImp_n0 ?_; intro _) | (refine aImp_i ?_; intro _))
  all_goals (try (first | omega | exact bI_01 _ | exact bI_lo _ | exact bI_hi _ | exact bI_hi' _ | exact trivial | exact Or.inl rfl | exact Or.inr rfl | (exfalso; omega)))
  all_goals first | rfl | rw [if_pos (by omega)] | rw [if_neg (by omega)]
set_option maxRecDepth 100000 in
theorem c_feed {X : AX} (d : Nat) (sb ss : Nat) (T : TyT) (G : TyG) (L : TyL) (O : TyO) (R : TyR) (P : TyP) (C : TyC) (B D : TyB) (S N : TyS) (t : AH) (v1 v2 v3 v4 v5 : Int) {Q : AQ} (hT : 0 ≤ T.2 ∧ T.2 ≤ 200)
    (h1 : 180 < T.2 → Q (some (iv (-1))) (CH sb ss T G L O R P C B D S N t))
    (h2 : T.2 ≤ 180 → Q (some (iv (T.2 + 20))) (CH sb ss (tpC v5 (tpC v4 (tpC v3 (tpC v2 (tpC v1 T))))) G L O R P C B D S N t)) :
    AW X (d + 4) 0 0 78 0 (aEntry 78 [rf 0, iv v1, iv v2, iv v3, iv v4, iv v5]) [] (CH sb ss T G L O R P C B D S N t) Q := by
  refine aw_tree (I0_ok X _) [(true, 49)] [] rfl ?_
  repeat' (first | refine And.intro ?_ ?_ | (refine aImp_e0 ?_; intro _) | (refine aImp_n0 ?_; intro _) | (refine aImp_i ?_; intro _))
  all_goals (try (first | omega | exact bI_01 _ | exact bI_lo _ | exact bI_hi _ | exact bI_hi' _ | exact trivial | exact Or.inl rfl | exact Or.inr rfl | (exfalso; omega)))
  · refine aw_cf0 (c_append _ sb ss T G L O R P C B D S N t v1 (by omega)) rfl ?_
    refine aw_tree (I0_ok X _) [(true, 49)] [] rfl ?_
    refine aw_cf0 (c_append _ sb ss _ G L O R P C B D S N t v2 (by dsimp only [tpC]; omega)) rfl ?_
    refine aw_tree (I0_ok X _) [(true, 49)] [] rfl ?_
    refine aw_cf0 (c_append _ sb ss _ G L O R P C B D S N t v3 (by dsimp only [tpC]; omega)) rfl ?_
    refine aw_tree (I0_ok X _) [(true, 49)] [] rfl ?_
    refine aw_cf0 (c_append _ sb ss _ G L O R P C B D S N t v4 (by dsimp only [tpC]; omega)) rfl ?_
    refine aw_tree (I0_ok X _) [(true, 49)] [] rfl ?_
    refine aw_cf0 (c_append _ sb ss _ G L O R P C B D S N t v5 (by dsimp only [tpC]; omega)) rfl ?_
    refine aw_tree (I0_ok X _) [(true, 49)] [] rfl ?_
    have e : (tpC v5 (tpC v4 (tpC v3 (tpC v2 (tpC v1 T))))).2 = T.2 + 20 := by dsimp only [tpC]; omega
    have := h2 (by omega)
    rw [← e] at this
    exact this
  · exact h1 (by omega)
theorem c_end {X : AX} (d : Nat) (sb ss : Nat) (T : TyT) (G : TyG) (L : TyL) (O : TyO) (R : TyR) (P : TyP) (C : TyC) (B D : TyB) (S N : TyS) (t : AH) (n : Int) {Q : AQ} (hn : inR n) (hT : 0 ≤ T.2 ∧ T.2 ≤ 200)
    (h1 : ¬ (0 ≤ n ∧ n ≤ T.2) → Q (some (iv 0)) (CH sb ss T G L O R P C B D S N t))
    (h2 : 0 ≤ n ∧ n ≤ T.2 → Q (some (iv 1)) (CH sb ss (T.1, n) G L O R P C B D S N t)) :
    AW X (d + 3) 0 0 79 0 (aEntry 79 [rf 0, iv n]) [] (CH sb ss T G L O R P C B D S N t) Q := by
  unfold inR at hn
  refine aw_tree (I0_ok X _) [(true, 49)] [] rfl ?_
  repeat' (first | refine And.intro ?_ ?_ | (refine aImp_e0 ?_; intro _) | (refine aImp_n0 ?_; intro _) | (refine aImp_i ?_; intro _))
  all_goals (try (first | omega | exact bI_01 _ | exact bI_lo _ | exact bI_hi _ | exact bI_hi' _ | exact trivial | exact Or.inl rfl | exact Or.inr rfl | (exfalso; omega)))
  all_goals first | exact h1 (by omega) | exact h2 (by omega)
theorem c_has {X : AX} (d : Nat) (sb ss : Nat) (T : TyT) (G : TyG) (L : TyL) (O : TyO) (R : TyR) (P : TyP) (C : TyC) (B D : TyB) (S N : TyS) (t : AH) (g : Int) (hg : inR g) (hG : 0 ≤ G.2.2.2.2.2.2.2.2.1 ∧ G.2.2.2.2.2.2.2.2.1 ≤ 32) : AF X (d + 3) 0 0 9 [rf 3, iv g] (CH sb ss T G L O R P C B D S N t) (some (iv (bI (0 ≤ g ∧ g < G.2.2.2.2.2.2.2.2.1)))) (CH sb ss T G L O R P C B D S N t) := by
  unfold inR at hg
  refine aw_tree (I0_ok X _) [(true, 49)] [] rfl ?_
  repeat' (first | refine And.intro ?_ ?_ | (refine aImp_e0 ?_; intro _) | (refine aImp_n0 ?_; intro _) | (refine aImp_i ?_; intro _))
  all_goals (try (first | omega | exact bI_01 _ | exact bI_lo _ | exact bI_hi _ | exact bI_hi' _ | exact trivial | exact Or.inl rfl | exact Or.inr rfl | (exfalso; omega)))
  all_goals first | rfl | exact congrArg (fun z => some (iv z)) (bI_congr (by omega))
def addC (q : TyG) (k dt ag wd ey wo : Int) : TyG := (aUp q.1 q.2.2.2.2.2.2.2.2.1 k, aUp q.2.1 q.2.2.2.2.2.2.2.2.1 dt, aUp q.2.2.1 q.2.2.2.2.2.2.2.2.1 ag, aUp q.2.2.2.1 q.2.2.2.2.2.2.2.2.1 wd, aUp q.2.2.2.2.1 q.2.2.2.2.2.2.2.2.1 ey, aUp q.2.2.2.2.2.1 q.2.2.2.2.2.2.2.2.1 wo, q.2.2.2.2.2.2.1, q.2.2.2.2.2.2.2.1, q.2.2.2.2.2.2.2.2.1 + 1, q.2.2.2.2.2.2.2.2.2)
theorem c_add {X : AX} (d : Nat) (sb ss : Nat) (T : TyT) (G : TyG) (L : TyL) (O : TyO) (R : TyR) (P : TyP) (C : TyC) (B D : TyB) (S N : TyS) (t : AH) (k dt ag wd ey wo : Int) (hG : 0 ≤ G.2.2.2.2.2.2.2.2.1 ∧ G.2.2.2.2.2.2.2.2.1 < 32) : AF X (d + 2) 0 0 10 [rf 3, iv k, iv dt, iv ag, iv wd, iv ey, iv wo] (CH sb ss T G L O R P C B D S N t) (some (iv G.2.2.2.2.2.2.2.2.1)) (CH sb ss T (addC G k dt ag wd ey wo) L O R P C B D S N t) := by
  refine aw_tree (I0_ok X _) [(true, 49)] [] rfl ?_
  repeat' (first | refine And.intro ?_ ?_ | (refine aImp_e0 ?_; intro _) | (refine aImp_n0 ?_; intro _) | (refine aImp_i ?_; intro _))
  all_goals (try (first | omega | exact bI_01 _ | exact bI_lo _ | exact bI_hi _ | exact bI_hi' _ | exact trivial | exact Or.inl rfl | exact Or.inr rfl | (exfalso; omega)))
  all_goals rfl
theorem c_markGone {X : AX} (d : Nat) (sb ss : Nat) (T : TyT) (G : TyG) (L : TyL) (O : TyO) (R : TyR) (P : TyP) (C : TyC) (B D : TyB) (S N : TyS) (t : AH) (g v : Int) (hg : 0 ≤ g ∧ g < 32) (hv : v = 0 ∨ v = 1) : AF X (d + 2) 0 0 11 [rf 3, iv g, iv v] (CH sb ss T G L O R P C B D S N t) none (CH sb ss T (G.1, G.2.1, G.2.2.1, G.2.2.2.1, G.2.2.2.2.1, G.2.2.2.2.2.1, aUp G.2.2.2.2.2.2.1 g v, G.2.2.2.2.2.2.2.1, G.2.2.2.2.2.2.2.2.1, G.2.2.2.2.2.2.2.2.2.1 + (if v = 0 then -1 else 1), G.2.2.2.2.2.2.2.2.2.2) L O R P C B D S N t) := by
  rcases hv with rfl | rfl
  · refine aw_tree (I0_ok X _) [(true, 49)] [] rfl ?_
    repeat' (first | refine And.intro ?_ ?_ | (refine aImp_e0 ?_; intro _) | (refine aImp_n0 ?_; intro _) | (refine aImp_i ?_; intro _))
    all_goals (try (first | omega | exact bI_01 _ | exact bI_lo _ | exact bI_hi _ | exact bI_hi' _ | exact trivial | exact Or.inl rfl | exact Or.inr rfl | (exfalso; omega)))
    all_goals rfl
  · refine aw_tree (I0_ok X _) [(true, 49)] [] rfl ?_
    repeat' (first | refine And.intro ?_ ?_ | (refine aImp_e0 ?_; intro _) | (refine aImp_n0 ?_; intro _) | (refine aImp_i ?_; intro _))
    all_goals (try (first | omega | exact bI_01 _ | exact bI_lo _ | exact bI_hi _ | exact bI_hi' _ | exact trivial | exact Or.inl rfl | exact Or.inr rfl | (exfalso; omega)))
    all_goals rfl
theorem c_isBarred {X : AX} (d : Nat) (sb ss : Nat) (T : TyT) (G : TyG) (L : TyL) (O : TyO) (R : TyR) (P : TyP) (C : TyC) (B D : TyB) (S N : TyS) (t : AH) (a b : Int) (ha : 0 ≤ a ∧ a < 32) (hr : inR (bAnd (bUshr (G.2.2.2.2.2.2.2.1 a) b) 1)) : AF X (d + 2) 0 0 12 [rf 3, iv a, iv b] (CH sb ss T G L O R P C B D S N t) (some (iv (bI (¬ bAnd (bUshr (G.2.2.2.2.2.2.2.1 a) b) 1 = 0)))) (CH sb ss T G L O R P C B D S N t) := by
  unfold inR at hr
  refine aw_tree (I0_ok X _) [(true, 49)] [] rfl ?_
  repeat' (first | refine And.intro ?_ ?_ | (refine aImp_e0 ?_; intro _) | (refine aImp_n0 ?_; intro _) | (refine aImp_i ?_; intro _))
  all_goals (try (first | omega | exact bI_01 _ | exact bI_lo _ | exact bI_hi _ | exact bI_hi' _ | exact trivial | exact Or.inl rfl | exact Or.inr rfl | (exfalso; omega)))
  all_goals first | rfl | rw [bI_f (by omega)] | rw [bI_t (by omega)]
theorem c_flipBar {X : AX} (d : Nat) (sb ss : Nat) (T : TyT) (G : TyG) (L : TyL) (O : TyO) (R : TyR) (P : TyP) (C : TyC) (B D : TyB) (S N : TyS) (t : AH) (a b : Int) (ha : 0 ≤ a ∧ a < 32) (hb : 0 ≤ b ∧ b < 32) : AF X (d + 2) 0 0 13 [rf 3, iv a, iv b] (CH sb ss T G L O R P C B D S N t) none (CH sb ss T (G.1, G.2.1, G.2.2.1, G.2.2.2.1, G.2.2.2.2.1, G.2.2.2.2.2.1, G.2.2.2.2.2.2.1, aUp (aUp G.2.2.2.2.2.2.2.1 a (bXor (G.2.2.2.2.2.2.2.1 a) (bShl 1 b))) b (bXor (aUp G.2.2.2.2.2.2.2.1 a (bXor (G.2.2.2.2.2.2.2.1 a) (bShl 1 b)) b) (bShl 1 a)), G.2.2.2.2.2.2.2.2) L O R P C B D S N t) := by
  refine aw_tree (I0_ok X _) [(true, 49)] [] rfl ?_
  repeat' (first | refine And.intro ?_ ?_ | (refine aImp_e0 ?_; intro _) | (refine aImp_n0 ?_; intro _) | (refine aImp_i ?_; intro _))
  all_goals (try (first | omega | exact bI_01 _ | exact bI_lo _ | exact bI_hi _ | exact bI_hi' _ | exact trivial | exact Or.inl rfl | exact Or.inr rfl | (exfalso; omega)))
  all_goals rfl
def valC (G : TyG) (f g : Int) : Int := if f = 11 then G.2.1 g else if f = 12 then G.2.2.1 g else if f = 13 then G.2.2.2.2.2.1 g else if f = 14 then G.2.2.2.1 g else G.2.2.2.2.1 g
theorem c_valueOf {X : AX} (d : Nat) (sb ss : Nat) (T : TyT) (G : TyG) (L : TyL) (O : TyO) (R : TyR) (P : TyP) (C : TyC) (B D : TyB) (S N : TyS) (t : AH) (f g : Int) (hf : inR f) (hg : 0 ≤ g ∧ g < 32) : AF X (d + 2) 0 0 14 [rf 3, iv f, iv g] (CH sb ss T G L O R P C B D S N t) (some (iv (valC G f g))) (CH sb ss T G L O R P C B D S N t) := by
  unfold inR at hf
  unfold valC
  refine aw_tree (I0_ok X _) [(true, 49)] [] rfl ?_
  repeat' (first | refine And.intro ?_ ?_ | (refine aImp_e0 ?_; intro _) | (refine aImp_n0 ?_; intro _) | (refine aImp_i ?_; intro _))
  all_goals (try (first | omega | exact bI_01 _ | exact bI_lo _ | exact bI_hi _ | exact bI_hi' _ | exact trivial | exact Or.inl rfl | exact Or.inr rfl | (exfalso; omega)))
  all_goals first | rfl | rw [if_pos (by omega)] | rw [if_neg (by omega), if_pos (by omega)] | rw [if_neg (by omega), if_neg (by omega), if_pos (by omega)] | rw [if_neg (by omega), if_neg (by omega), if_neg (by omega), if_pos (by omega)] | rw [if_neg (by omega), if_neg (by omega), if_neg (by omega), if_neg (by omega)]
theorem c_set {X : AX} (d : Nat) (sb ss : Nat) (T : TyT) (G : TyG) (L : TyL) (O : TyO) (R : TyR) (P : TyP) (C : TyC) (B D : TyB) (S N : TyS) (t : AH) (s f e : Int) {Q : AQ} (hs : inR s) (hf : inR f) (he : inR e)
    (h1 : ¬ ((0 ≤ s ∧ s ≤ 300) ∧ (1 ≤ f ∧ f ≤ 4) ∧ (0 ≤ e ∧ e ≤ 1000)) → Q (some (iv 0)) (CH sb ss T G L O R P C B D S N t))
    (h2 : (0 ≤ s ∧ s ≤ 300) ∧ (1 ≤ f ∧ f ≤ 4) ∧ (0 ≤ e ∧ e ≤ 1000) → Q (some (iv 1)) (CH sb ss T G (L.1, L.2.1, s, f, e) O R P C B D S N t)) :
    AW X (d + 3) 0 0 84 0 (aEntry 84 [rf 0, iv s, iv f, iv e]) [] (CH sb ss T G L O R P C B D S N t) Q := by
  unfold inR at hs hf he
  refine aw_tree (I0_ok X _) [(true, 49)] [] rfl ?_
  repeat' (first | refine And.intro ?_ ?_ | (refine aImp_e0 ?_; intro _) | (refine aImp_n0 ?_; intro _) | (refine aImp_i ?_; intro _))
  all_goals (try (first | omega | exact bI_01 _ | exact bI_lo _ | exact bI_hi _ | exact bI_hi' _ | exact trivial | exact Or.inl rfl | exact Or.inr rfl | (exfalso; omega)))
  all_goals first | exact h1 (by omega) | exact h2 (by omega)
theorem c_fault {X : AX} (d : Nat) (sb ss : Nat) (T : TyT) (G : TyG) (L : TyL) (O : TyO) (R : TyR) (P : TyP) (C : TyC) (B D : TyB) (S N : TyS) (t : AH) (w : Int) (hw : inR w) : AF X (d + 2) 0 0 86 [rf 0, iv w] (CH sb ss T G L O R P C B D S N t) (some (iv (if w = 0 then R.1 else if w = 1 then R.2.1 else -1))) (CH sb ss T G L O R P C B D S N t) := by
  unfold inR at hw
  refine aw_tree (I0_ok X _) [(true, 49)] [] rfl ?_
  repeat' (first | refine And.intro ?_ ?_ | (refine aImp_e0 ?_; intro _) | (refine aImp_n0 ?_; intro _) | (refine aImp_i ?_; intro _))
  all_goals (try (first | omega | exact bI_01 _ | exact bI_lo _ | exact bI_hi _ | exact bI_hi' _ | exact trivial | exact Or.inl rfl | exact Or.inr rfl | (exfalso; omega)))
  all_goals first | rfl | (rw [if_pos (by omega)]) | (rw [if_neg (by omega), if_pos (by omega)]) | (rw [if_neg (by omega), if_neg (by omega)])
theorem c_hasKind0 {X : AX} (d : Nat) (sb ss : Nat) (T : TyT) (G : TyG) (L : TyL) (O : TyO) (R : TyR) (P : TyP) (C : TyC) (B D : TyB) (S N : TyS) (t : AH) (k : Int) (hk : 0 ≤ k ∧ k < 8) (hl : inR (B.1 k)) : AF X (d + 2) 0 0 41 [rf 31, iv k] (CH sb ss T G L O R P C B D S N t) (some (iv (bI (¬ B.1 k = -1)))) (CH sb ss T G L O R P C B D S N t) := by
  unfold inR at hl
  refine aw_tree (I0_ok X _) [(true, 49)] [] rfl ?_
  repeat' (first | refine And.intro ?_ ?_ | (refine aImp_e0 ?_; intro _) | (refine aImp_n0 ?_; intro _) | (refine aImp_i ?_; intro _))
  all_goals (try (first | omega | exact bI_01 _ | exact bI_lo _ | exact bI_hi _ | exact bI_hi' _ | exact trivial | exact Or.inl rfl | exact Or.inr rfl | (exfalso; omega)))
  all_goals first | rfl | rw [bI_f (by omega)] | rw [bI_t (by omega)]
theorem c_hasKind1 {X : AX} (d : Nat) (sb ss : Nat) (T : TyT) (G : TyG) (L : TyL) (O : TyO) (R : TyR) (P : TyP) (C : TyC) (B D : TyB) (S N : TyS) (t : AH) (k : Int) (hk : 0 ≤ k ∧ k < 8) (hl : inR (D.1 k)) : AF X (d + 2) 0 0 41 [rf 36, iv k] (CH sb ss T G L O R P C B D S N t) (some (iv (bI (¬ D.1 k = -1)))) (CH sb ss T G L O R P C B D S N t) := by
  unfold inR at hl
  refine aw_tree (I0_ok X _) [(true, 49)] [] rfl ?_
  repeat' (first | refine And.intro ?_ ?_ | (refine aImp_e0 ?_; intro _) | (refine aImp_n0 ?_; intro _) | (refine aImp_i ?_; intro _))
  all_goals (try (first | omega | exact bI_01 _ | exact bI_lo _ | exact bI_hi _ | exact bI_hi' _ | exact trivial | exact Or.inl rfl | exact Or.inr rfl | (exfalso; omega)))
  all_goals first | rfl | rw [bI_f (by omega)] | rw [bI_t (by omega)]
theorem c_holds0 {X : AX} (d : Nat) (sb ss : Nat) (T : TyT) (G : TyG) (L : TyL) (O : TyO) (R : TyR) (P : TyP) (C : TyC) (B D : TyB) (S N : TyS) (t : AH) (g : Int) (hg : inR g) (hr : inR (S.1 g)) : AF X (d + 3) 0 0 63 [rf 41, iv g] (CH sb ss T G L O R P C B D S N t) (some (iv (bI ((0 ≤ g ∧ g ≤ 31) ∧ ¬ S.1 g = -2)))) (CH sb ss T G L O R P C B D S N t) := by
  unfold inR at hg hr
  refine aw_tree (I0_ok X _) [(true, 49)] [] rfl ?_
  repeat' (first | refine And.intro ?_ ?_ | (refine aImp_e0 ?_; intro _) | (refine aImp_n0 ?_; intro _) | (refine aImp_i ?_; intro _))
  all_goals (try (first | omega | exact bI_01 _ | exact bI_lo _ | exact bI_hi _ | exact bI_hi' _ | exact trivial | exact Or.inl rfl | exact Or.inr rfl | (exfalso; omega)))
  all_goals first | rfl | rw [bI_f (by omega)] | rw [bI_t (by omega)]
theorem c_isSeated0 {X : AX} (d : Nat) (sb ss : Nat) (T : TyT) (G : TyG) (L : TyL) (O : TyO) (R : TyR) (P : TyP) (C : TyC) (B D : TyB) (S N : TyS) (t : AH) (g : Int) (hg : inR g) (hr : inR (S.1 g)) : AF X (d + 4) 0 0 64 [rf 41, iv g] (CH sb ss T G L O R P C B D S N t) (some (iv (bI ((0 ≤ g ∧ g ≤ 31) ∧ ¬ S.1 g = -2 ∧ ¬ S.1 g = -1)))) (CH sb ss T G L O R P C B D S N t) := by
  have hr' := hr
  unfold inR at hr'
  refine aw_tree (I0_ok X _) [(true, 49)] [] rfl ?_
  refine aw_cf0 (c_holds0 d sb ss T G L O R P C B D S N t g hg hr) rfl ?_
  refine aw_tree (I0_ok X _) [(true, 49)] [] rfl ?_
  repeat' (first | refine And.intro ?_ ?_ | (refine aImp_e0 ?_; intro _) | (refine aImp_n0 ?_; intro _) | (refine aImp_i ?_; intro _))
  all_goals (try (first | omega | exact bI_01 _ | exact bI_lo _ | exact bI_hi _ | exact bI_hi' _ | exact trivial | exact Or.inl rfl | exact Or.inr rfl | (exfalso; omega)))
  all_goals first | rfl | rw [bI_f (by omega)] | rw [bI_t (by omega)]
theorem c_moved0 {X : AX} (d : Nat) (T : TyT) (G : TyG) (L : TyL) (O : TyO) (R : TyR) (P : TyP) (C : TyC) (B D : TyB) (S N : TyS) (sb : Nat) (t : AH) (hm : S.2.2.2.2.2.2 = 0 ∨ S.2.2.2.2.2.2 = 1) : AF X (d + 2) 0 0 90 [rf 0] (CH sb 0 T G L O R P C B D S N t) (some (iv (if S.2.2.2.2.2.2 = 0 then -1 else S.2.2.2.2.2.1))) (CH sb 0 T G L O R P C B D S N t) := by
  refine aw_tree (I0_ok X _) [(true, 49)] [] rfl ?_
  repeat' (first | refine And.intro ?_ ?_ | (refine aImp_e0 ?_; intro _) | (refine aImp_n0 ?_; intro _) | (refine aImp_i ?_; intro _))
  all_goals (try (first | omega | exact bI_01 _ | exact bI_lo _ | exact bI_hi _ | exact bI_hi' _ | exact trivial | exact Or.inl rfl | exact Or.inr rfl | (exfalso; omega)))
  all_goals first | rfl | (rw [if_pos (by omega)]) | (rw [if_neg (by omega)])
theorem c_holds1 {X : AX} (d : Nat) (sb ss : Nat) (T : TyT) (G : TyG) (L : TyL) (O : TyO) (R : TyR) (P : TyP) (C : TyC) (B D : TyB) (S N : TyS) (t : AH) (g : Int) (hg : inR g) (hr : inR (N.1 g)) : AF X (d + 3) 0 0 63 [rf 45, iv g] (CH sb ss T G L O R P C B D S N t) (some (iv (bI ((0 ≤ g ∧ g ≤ 31) ∧ ¬ N.1 g = -2)))) (CH sb ss T G L O R P C B D S N t) := by
  unfold inR at hg hr
  refine aw_tree (I0_ok X _) [(true, 49)] [] rfl ?_
  repeat' (first | refine And.intro ?_ ?_ | (refine aImp_e0 ?_; intro _) | (refine aImp_n0 ?_; intro _) | (refine aImp_i ?_; intro _))
  all_goals (try (first | omega | exact bI_01 _ | exact bI_lo _ | exact bI_hi _ | exact bI_hi' _ | exact trivial | exact Or.inl rfl | exact Or.inr rfl | (exfalso; omega)))
  all_goals first | rfl | rw [bI_f (by omega)] | rw [bI_t (by omega)]
theorem c_isSeated1 {X : AX} (d : Nat) (sb ss : Nat) (T : TyT) (G : TyG) (L : TyL) (O : TyO) (R : TyR) (P : TyP) (C : TyC) (B D : TyB) (S N : TyS) (t : AH) (g : Int) (hg : inR g) (hr : inR (N.1 g)) : AF X (d + 4) 0 0 64 [rf 45, iv g] (CH sb ss T G L O R P C B D S N t) (some (iv (bI ((0 ≤ g ∧ g ≤ 31) ∧ ¬ N.1 g = -2 ∧ ¬ N.1 g = -1)))) (CH sb ss T G L O R P C B D S N t) := by
  have hr' := hr
  unfold inR at hr'
  refine aw_tree (I0_ok X _) [(true, 49)] [] rfl ?_
  refine aw_cf0 (c_holds1 d sb ss T G L O R P C B D S N t g hg hr) rfl ?_
  refine aw_tree (I0_ok X _) [(true, 49)] [] rfl ?_
  repeat' (first | refine And.intro ?_ ?_ | (refine aImp_e0 ?_; intro _) | (refine aImp_n0 ?_; intro _) | (refine aImp_i ?_; intro _))
  all_goals (try (first | omega | exact bI_01 _ | exact bI_lo _ | exact bI_hi _ | exact bI_hi' _ | exact trivial | exact Or.inl rfl | exact Or.inr rfl | (exfalso; omega)))
  all_goals first | rfl | rw [bI_f (by omega)] | rw [bI_t (by omega)]
theorem c_moved1 {X : AX} (d : Nat) (T : TyT) (G : TyG) (L : TyL) (O : TyO) (R : TyR) (P : TyP) (C : TyC) (B D : TyB) (S N : TyS) (sb : Nat) (t : AH) (hm : N.2.2.2.2.2.2 = 0 ∨ N.2.2.2.2.2.2 = 1) : AF X (d + 2) 0 0 90 [rf 0] (CH sb 1 T G L O R P C B D S N t) (some (iv (if N.2.2.2.2.2.2 = 0 then -1 else N.2.2.2.2.2.1))) (CH sb 1 T G L O R P C B D S N t) := by
  refine aw_tree (I0_ok X _) [(true, 49)] [] rfl ?_
  repeat' (first | refine And.intro ?_ ?_ | (refine aImp_e0 ?_; intro _) | (refine aImp_n0 ?_; intro _) | (refine aImp_i ?_; intro _))
  all_goals (try (first | omega | exact bI_01 _ | exact bI_lo _ | exact bI_hi _ | exact bI_hi' _ | exact trivial | exact Or.inl rfl | exact Or.inr rfl | (exfalso; omega)))
  all_goals first | rfl | (rw [if_pos (by omega)]) | (rw [if_neg (by omega)])

abbrev pBL (P : TyP) (b l : FN) : TyP := (P.1, P.2.1, P.2.2.1, b, l, P.2.2.2.2.2)
/-- the bars of the office's guests are the model's -/
def rGb (G : TyG) (mG : TyMG) : Prop := ∀ a b, 0 ≤ a → a < 32 → 0 ≤ b → b < 32 → bitI (G.2.2.2.2.2.2.2.1 a) b = mG.2.2.1 (32 * a + b)
theorem c_nb_loop {X : AX} (d : Nat) (sb ss : Nat) (T : TyT) (G : TyG) (L : TyL) (O : TyO) (R : TyR) (P : TyP) (C : TyC) (B D : TyB) (S N : TyS) (t : AH) (mG : TyMG) (i n : Int) {Q : AQ} (hb : rGb G mG) (hn : P.2.2.2.2.2.2.2.2.1 = n ∧ n ≤ 32) (hi : 0 ≤ i ∧ i < n) (hgs : ∀ j, i ≤ j → j < n → 0 ≤ P.1 j ∧ P.1 j < 32)
    (hQ : ∀ b l : Int, (∀ k, i < k → k < n → (¬ bitI b k = 0 ↔ ¬ mG.2.2.1 (32 * P.1 i + P.1 k) = 0)) → (-1 ≤ l ∧ l < n) → (∀ k, i < k → k < n → l < k → mG.2.2.1 (32 * P.1 i + P.1 k) = 0) → Q none (CH sb ss T G L O R (pBL P (aUp P.2.2.2.1 i b) (aUp P.2.2.2.2.1 i l)) C B D S N t)) :
    ∀ (m : Nat) (k b l : Int), k + m = n → i < k → (∀ j, 0 ≤ j → j < 32 → j ≥ k → bitI b j = 0) → (∀ j, i < j → j < k → (¬ bitI b j = 0 ↔ ¬ mG.2.2.1 (32 * P.1 i + P.1 j) = 0)) → (-1 ≤ l ∧ l < k) → (∀ j, i < j → j < k → l < j → mG.2.2.1 (32 * P.1 i + P.1 j) = 0) → AW X (d + 3) 0 0 25 14 [rf 17, iv i, rf 3, iv k] [] (CH sb ss T G L O R (pBL P (aUp P.2.2.2.1 i b) (aUp P.2.2.2.2.1 i l)) C B D S N t) Q := by
  intro m
  induction m with
  | zero =>
    intro k b l hm hk h1 h2 h3 h4
    refine aw_tree (I0_ok X _) [(true, 49)] [14] rfl ?_
    dsimp only
    repeat' (first | refine And.intro ?_ ?_ | (refine aImp_e0 ?_; intro _) | (refine aImp_n0 ?_; intro _) | (refine aImp_i ?_; intro _))
    all_goals (try (first | omega | exact bI_01 _ | exact bI_lo _ | exact bI_hi _ | exact bI_hi' _ | exact trivial | exact Or.inl rfl | exact Or.inr rfl | (exfalso; omega)))
    exact hQ b l (fun j a c => h2 j a (by omega)) (by omega) (fun j a c e => h4 j a (by omega) e)
  | succ m ih =>
    intro k b l hm hk h1 h2 h3 h4
    have g1 := hgs i (by omega) (by omega)
    have g2 := hgs k (by omega) (by omega)
    have hbit := hb (P.1 i) (P.1 k) g1.1 g1.2 g2.1 g2.2
    have h01 := bitI_01 (x := G.2.2.2.2.2.2.2.1 (P.1 i)) (j := P.1 k) g2
    refine aw_tree (I0_ok X _) [(true, 49)] [14] rfl ?_
    dsimp only
    repeat' (first | refine And.intro ?_ ?_ | (refine aImp_e0 ?_; intro _) | (refine aImp_n0 ?_; intro _) | (refine aImp_i ?_; intro _))
    all_goals (try (first | omega | exact bI_01 _ | exact bI_lo _ | exact bI_hi _ | exact bI_hi' _ | exact trivial | exact Or.inl rfl | exact Or.inr rfl | (exfalso; omega)))
    refine aw_cf0 (c_isBarred _ sb ss T G L O R (pBL P (aUp P.2.2.2.1 i b) (aUp P.2.2.2.2.1 i l)) C B D S N t (P.1 i) (P.1 k) g1 (by show inR (bitI (G.2.2.2.2.2.2.2.1 (P.1 i)) (P.1 k)); unfold inR; omega)) rfl ?_
    show AW X (d + 3) 0 0 25 _ _ ((some (iv (bI (¬ bitI (G.2.2.2.2.2.2.2.1 (P.1 i)) (P.1 k) = 0)))).toList ++ _) _ Q
    by_cases hz : bitI (G.2.2.2.2.2.2.2.1 (P.1 i)) (P.1 k) = 0
    · rw [bI_f (fun q => q hz)]
      have hkz := h1 k (by omega) (by omega) (by omega)
      refine aw_tree (I0_ok X _) [(true, 49)] [14] rfl ?_
      dsimp only
      repeat' (first | refine And.intro ?_ ?_ | (refine aImp_e0 ?_; intro _) | (refine aImp_n0 ?_; intro _) | (refine aImp_i ?_; intro _))
      all_goals (try (first | omega | exact bI_01 _ | exact bI_lo _ | exact bI_hi _ | exact bI_hi' _ | exact trivial | exact Or.inl rfl | exact Or.inr rfl | (exfalso; omega)))
      refine ih (k + 1) b l (by omega) (by omega) (fun j a c e => h1 j a c (by omega)) (fun j a c => ?_) (by omega) (fun j a c e => ?_)
      · by_cases ej : j = k
        · rw [ej, hkz, ← hbit, hz]
        · exact h2 j a (by omega)
      · by_cases ej : j = k
        · rw [ej, ← hbit]; exact hz
        · exact h4 j a (by omega) e
    · rw [bI_t hz]
      refine aw_tree (I0_ok X _) [(true, 49)] [14] rfl ?_
      dsimp only
      repeat' (first | refine And.intro ?_ ?_ | (refine aImp_e0 ?_; intro _) | (refine aImp_n0 ?_; intro _) | (refine aImp_i ?_; intro _))
      all_goals (try (first | omega | exact bI_01 _ | exact bI_lo _ | exact bI_hi _ | exact bI_hi' _ | exact trivial | exact Or.inl rfl | exact Or.inr rfl | (exfalso; omega)))
      have eb : aUp (aUp P.2.2.2.1 i b) i (bOr (aUp P.2.2.2.1 i b i) (bShl 1 k)) = aUp P.2.2.2.1 i (bOr b (bShl 1 k)) := by
        rw [aUp_s]
        funext z
        unfold aUp
        by_cases q : z = i
        · rw [if_pos q, if_pos q]
        · rw [if_neg q, if_neg q, if_neg q]
      have el : aUp (aUp P.2.2.2.2.1 i l) i k = aUp P.2.2.2.2.1 i k := by
        funext z
        unfold aUp
        by_cases q : z = i
        · rw [if_pos q, if_pos q]
        · rw [if_neg q, if_neg q, if_neg q]
      rw [eb, el]
      refine ih (k + 1) (bOr b (bShl 1 k)) k (by omega) (by omega) (fun j a c e => ?_) (fun j a c => ?_) (by omega) (fun j a c e => by omega)
      · rw [bitI_or (by omega) (by omega), if_neg (by omega)]; exact h1 j a c (by omega)
      · rw [bitI_or (by omega) (by omega)]
        by_cases ej : j = k
        · rw [if_pos ej, ej, ← hbit]
          exact ⟨fun _ => hz, fun _ => by decide⟩
        · rw [if_neg ej]; exact h2 j a (by omega)
theorem c_noteBars {X : AX} (d : Nat) (sb ss : Nat) (T : TyT) (G : TyG) (L : TyL) (O : TyO) (R : TyR) (P : TyP) (C : TyC) (B D : TyB) (S N : TyS) (t : AH) (mG : TyMG) (i n : Int) {Q : AQ} (hb : rGb G mG) (hn : P.2.2.2.2.2.2.2.2.1 = n ∧ n ≤ 32) (hi : 0 ≤ i ∧ i < n) (hgs : ∀ j, i ≤ j → j < n → 0 ≤ P.1 j ∧ P.1 j < 32)
    (hQ : ∀ b l : Int, (∀ k, i < k → k < n → (¬ bitI b k = 0 ↔ ¬ mG.2.2.1 (32 * P.1 i + P.1 k) = 0)) → (-1 ≤ l ∧ l < n) → (∀ k, i < k → k < n → l < k → mG.2.2.1 (32 * P.1 i + P.1 k) = 0) → Q none (CH sb ss T G L O R (pBL P (aUp P.2.2.2.1 i b) (aUp P.2.2.2.2.1 i l)) C B D S N t)) :
    AW X (d + 3) 0 0 25 0 (aEntry 25 [rf 17, iv i, rf 3]) [] (CH sb ss T G L O R P C B D S N t) Q := by
  refine aw_tree (I0_ok X _) [(true, 49)] [14] rfl ?_
  dsimp only
  repeat' (first | refine And.intro ?_ ?_ | (refine aImp_e0 ?_; intro _) | (refine aImp_n0 ?_; intro _) | (refine aImp_i ?_; intro _))
  all_goals (try (first | omega | exact bI_01 _ | exact bI_lo _ | exact bI_hi _ | exact bI_hi' _ | exact trivial | exact Or.inl rfl | exact Or.inr rfl | (exfalso; omega)))
  exact c_nb_loop d sb ss T G L O R P C B D S N t mG i n hb hn hi hgs hQ (n - (i + 1)).toNat (i + 1) 0 (-1) (by omega) (by omega) (fun j a b c => bitI_0 ⟨a, b⟩) (fun j a b => by omega) (by omega) (fun j a b c => by omega)
/-- the planner's rows from the j-th on -/
def rPj (P : TyP) (V : DP) (o : FN) (j : Int) : Prop := P.2.2.2.2.2.2.2.2.1 = dN V ∧ (∀ i, j ≤ i → i < dN V → P.1 i = o i ∧ P.2.1 i = dW V i ∧ P.2.2.1 i = dO V i) ∧ (∀ i, j ≤ i → i < dN V → (-1 ≤ P.2.2.2.2.1 i ∧ P.2.2.2.2.1 i < dN V) ∧ ∀ k, i < k → k < dN V → P.2.2.2.2.1 i < k → ¬ dB V i k) ∧ (∀ i k, j ≤ i → i < k → k < dN V → (¬ bitI (P.2.2.2.1 i) k = 0 ↔ dB V i k)) ∧ (P.2.2.2.2.2.2.2.2.2.1 = 0 ∨ P.2.2.2.2.2.2.2.2.2.1 = 1) ∧ (∀ i r p, j ≤ i → i < dN V → 0 ≤ r → r < 6 → cif (¬ P.2.2.2.2.2.1 i = r ∨ ¬ P.2.2.2.2.2.2.1 i = p) P.2.2.2.2.2.2.2.2.2.1 0 = dM V i r p) ∧ (∀ i, j ≤ i → i ≤ dN V → P.2.2.2.2.2.2.2.1 i = nob V (dN V - i).toNat) ∧ (∀ i, j ≤ i → i < dN V → inR (P.2.2.2.2.2.1 i) ∧ inR (P.2.2.2.2.2.2.1 i))
/-- the seating ahead, office against model -/
def rSw (S : TyS) (rw' pw : FN) : Prop := ∀ g, 0 ≤ g → g < 32 → (-2 ≤ S.1 g ∧ S.1 g ≤ 5) ∧ (-1 ≤ S.2.1 g ∧ S.2.1 g ≤ 40) ∧ (0 ≤ rw' g ∧ rw' g ≤ 7) ∧ (0 ≤ S.1 g ↔ rw' g < 6) ∧ (0 ≤ S.1 g → S.1 g = rw' g ∧ S.2.1 g = pw g)
/-- where the planner's guests sat ahead, from the j-th on -/
def rPa (P : TyP) (o rw' pw : FN) (n j : Int) : Prop := ∀ i, j ≤ i → i < n → (rw' (o i) < 6 ∧ P.2.2.2.2.2.1 i = rw' (o i) ∧ P.2.2.2.2.2.2.1 i = pw (o i)) ∨ (¬ rw' (o i) < 6 ∧ P.2.2.2.2.2.1 i = -1 ∧ P.2.2.2.2.2.2.1 i = -1)

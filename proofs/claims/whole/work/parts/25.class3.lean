theorem c_ins_shift0 {X : AX} (d : Nat) (sb ss : Nat) (T : TyT) (G : TyG) (L : TyL) (R : TyR) (P : TyP) (C : TyC) (B D : TyB) (S N : TyS) (t : AH) (mG : TyMG) (mU : TyMU) (g n : Int) {Q : AQ} (hg : 0 ≤ g ∧ g < 32) (hg1 : ¬ lnM mG mU g = -1) (hn : 0 ≤ n ∧ n < 32) (hG : kG mG) (hU : kU mU) (hv : rGv G mG) (hB : rB B mU) :
    ∀ (k : Nat) (f : FN), (k : Int) ≤ n → (∀ i : Int, 0 ≤ i → i < k → (0 ≤ f i ∧ f i < 32) ∧ ¬ lnM mG mU (f i) = -1) → Q none (CH sb ss T G L (insF (ahM mG mU) g k f, n + 1) R P C B D S N t) → AW X (d + 4) 0 0 19 15 [rf 14, iv g, rf 3, rf 31, iv k] [] (CH sb ss T G L (f, n) R P C B D S N t) Q := by
  intro k
  induction k with
  | zero =>
    intro f hk hin hQ
    refine aw_tree (I0_ok X _) [(true, 49)] [15] rfl ?_
    repeat' (first | refine And.intro ?_ ?_ | (refine aImp_e0 ?_; intro _) | (refine aImp_n0 ?_; intro _) | (refine aImp_i ?_; intro _))
    all_goals (try (first | omega | exact bI_01 _ | exact bI_lo _ | exact bI_hi _ | exact bI_hi' _ | exact trivial | exact Or.inl rfl | exact Or.inr rfl | (exfalso; omega)))
    exact hQ
  | succ k ih =>
    intro f hk hin hQ
    obtain ⟨i1, i3⟩ := hin k (by omega) (by omega)
    have ec : ((k + 1 : Nat) : Int) - 1 = k := by omega
    have ec2 : ((k + 1 : Nat) : Int) + -1 = k := by omega
    refine aw_tree (I0_ok X _) [(true, 49)] [15] rfl ?_
    repeat' (first | refine And.intro ?_ ?_ | (refine aImp_e0 ?_; intro _) | (refine aImp_n0 ?_; intro _) | (refine aImp_i ?_; intro _))
    all_goals (try (first | omega | exact bI_01 _ | exact bI_lo _ | exact bI_hi _ | exact bI_hi' _ | exact trivial | exact Or.inl rfl | exact Or.inr rfl | (exfalso; omega)))
    rw [ec]
    refine aw_cf0 (c_isAhead0 d sb ss T G L (f, n) R P C B D S N t mG mU g (f k) hg i1 hG hU hv hB hg1 i3) rfl ?_
    refine aw_tree (I0_ok X _) [(true, 49)] [15] rfl ?_
    repeat' (first | refine And.intro ?_ ?_ | (refine aImp_e0 ?_; intro _) | (refine aImp_n0 ?_; intro _) | (refine aImp_i ?_; intro _))
    all_goals (try (first | omega | exact bI_01 _ | exact bI_lo _ | exact bI_hi _ | exact bI_hi' _ | exact trivial | exact Or.inl rfl | exact Or.inr rfl | (exfalso; omega)))
    · next hna =>
      have e : insF (ahM mG mU) g (k + 1) f = aUp f ((k : Int) + 1) g := by rw [insF]; exact cif_f hna _ _
      rw [e] at hQ
      exact hQ
    · next hya =>
      have e : insF (ahM mG mU) g (k + 1) f = insF (ahM mG mU) g k (aUp f ((k : Int) + 1) (f k)) := by rw [insF]; exact cif_t hya _ _
      rw [ec, ec2]
      refine ih (aUp f ((k : Int) + 1) (f k)) (by omega) (fun i h0 h1 => ?_) ?_
      · rw [aUp_n _ _ (by omega)]; exact hin i h0 (by omega)
      · rw [← e]; exact hQ
theorem c_insert0 {X : AX} (d : Nat) (sb ss : Nat) (T : TyT) (G : TyG) (L : TyL) (O : TyO) (R : TyR) (P : TyP) (C : TyC) (B D : TyB) (S N : TyS) (t : AH) (mG : TyMG) (mU : TyMU) (g : Int) {Q : AQ} (hg : 0 ≤ g ∧ g < 32) (hn : 0 ≤ O.2 ∧ O.2 < 32) (hG : kG mG) (hU : kU mU) (hv : rGv G mG) (hB : rB B mU) (hin : ∀ i : Int, 0 ≤ i → i < O.2 → (0 ≤ O.1 i ∧ O.1 i < 32) ∧ ¬ lnM mG mU (O.1 i) = -1)
    (h1 : lnM mG mU g = -1 → Q none (CH sb ss T G L O R P C B D S N t)) (h2 : ¬ lnM mG mU g = -1 → Q none (CH sb ss T G L (insF (ahM mG mU) g O.2.toNat O.1, O.2 + 1) R P C B D S N t)) :
    AW X (d + 4) 0 0 19 0 (aEntry 19 [rf 14, iv g, rf 3, rf 31]) [] (CH sb ss T G L O R P C B D S N t) Q := by
  have hG' := hG
  obtain ⟨g0, g1, g2, g3, g4, g5⟩ := hG'
  have hU' := hU
  obtain ⟨u0, u1, u2, u3⟩ := hU'
  have hB' := hB
  obtain ⟨b0, b1, b2, b3⟩ := hB'
  have hv' := hv
  obtain ⟨v0, v1, v2⟩ := hv'
  have a1 := g1 (6 * g)
  have a2 := g2 g hg.1 hg.2
  have b1p := u1 (mG.1 (6 * g)) (by omega) (by omega)
  have vp := (v1 g hg.1 hg.2).1
  have c1 : B.1 (G.1 g) = lnM mG mU g := by rw [vp]; exact b1 _ (by omega) (by omega)
  have c3 : lnM mG mU g = mU.1 (mG.1 (6 * g)) := rfl
  refine aw_tree (I0_ok X _) [(true, 49)] [] rfl ?_
  repeat' (first | refine And.intro ?_ ?_ | (refine aImp_e0 ?_; intro _) | (refine aImp_n0 ?_; intro _) | (refine aImp_i ?_; intro _))
  all_goals (try (first | omega | exact bI_01 _ | exact bI_lo _ | exact bI_hi _ | exact bI_hi' _ | exact trivial | exact Or.inl rfl | exact Or.inr rfl | (exfalso; omega)))
  refine aw_cf0 (c_hasKind0 _ sb ss T G L O R P C B D S N t (G.1 g) (by omega) (by unfold inR; omega)) rfl ?_
  refine aw_tree (I0_ok X _) [(true, 49)] [15] rfl ?_
  repeat' (first | refine And.intro ?_ ?_ | (refine aImp_e0 ?_; intro _) | (refine aImp_n0 ?_; intro _) | (refine aImp_i ?_; intro _))
  all_goals (try (first | omega | exact bI_01 _ | exact bI_lo _ | exact bI_hi _ | exact bI_hi' _ | exact trivial | exact Or.inl rfl | exact Or.inr rfl | (exfalso; omega)))
  · have en : O.2 = (O.2.toNat : Int) := by omega
    have goal := c_ins_shift0 (X := X) (Q := Q) d sb ss T G L R P C B D S N t mG mU g O.2 hg (by omega) hn hG hU hv hB O.2.toNat O.1 (by omega) (fun i h0 h1 => hin i h0 (by omega)) (h2 (by omega))
    rw [← en] at goal
    exact goal
  · exact h1 (by omega)
theorem c_ins_shift1 {X : AX} (d : Nat) (sb ss : Nat) (T : TyT) (G : TyG) (L : TyL) (R : TyR) (P : TyP) (C : TyC) (B D : TyB) (S N : TyS) (t : AH) (mG : TyMG) (mU : TyMU) (g n : Int) {Q : AQ} (hg : 0 ≤ g ∧ g < 32) (hg1 : ¬ lnM mG mU g = -1) (hn : 0 ≤ n ∧ n < 32) (hG : kG mG) (hU : kU mU) (hv : rGv G mG) (hB : rB D mU) :
    ∀ (k : Nat) (f : FN), (k : Int) ≤ n → (∀ i : Int, 0 ≤ i → i < k → (0 ≤ f i ∧ f i < 32) ∧ ¬ lnM mG mU (f i) = -1) → Q none (CH sb ss T G L (insF (ahM mG mU) g k f, n + 1) R P C B D S N t) → AW X (d + 4) 0 0 19 15 [rf 14, iv g, rf 3, rf 36, iv k] [] (CH sb ss T G L (f, n) R P C B D S N t) Q := by
  intro k
  induction k with
  | zero =>
    intro f hk hin hQ
    refine aw_tree (I0_ok X _) [(true, 49)] [15] rfl ?_
    repeat' (first | refine And.intro ?_ ?_ | (refine aImp_e0 ?_; intro _) | (refine aImp_n0 ?_; intro _) | (refine aImp_i ?_; intro _))
    all_goals (try (first | omega | exact bI_01 _ | exact bI_lo _ | exact bI_hi _ | exact bI_hi' _ | exact trivial | exact Or.inl rfl | exact Or.inr rfl | (exfalso; omega)))
    exact hQ
  | succ k ih =>
    intro f hk hin hQ
    obtain ⟨i1, i3⟩ := hin k (by omega) (by omega)
    have ec : ((k + 1 : Nat) : Int) - 1 = k := by omega
    have ec2 : ((k + 1 : Nat) : Int) + -1 = k := by omega
    refine aw_tree (I0_ok X _) [(true, 49)] [15] rfl ?_
    repeat' (first | refine And.intro ?_ ?_ | (refine aImp_e0 ?_; intro _) | (refine aImp_n0 ?_; intro _) | (refine aImp_i ?_; intro _))
    all_goals (try (first | omega | exact bI_01 _ | exact bI_lo _ | exact bI_hi _ | exact bI_hi' _ | exact trivial | exact Or.inl rfl | exact Or.inr rfl | (exfalso; omega)))
    rw [ec]
    refine aw_cf0 (c_isAhead1 d sb ss T G L (f, n) R P C B D S N t mG mU g (f k) hg i1 hG hU hv hB hg1 i3) rfl ?_
    refine aw_tree (I0_ok X _) [(true, 49)] [15] rfl ?_
    repeat' (first | refine And.intro ?_ ?_ | (refine aImp_e0 ?_; intro _) | (refine aImp_n0 ?_; intro _) | (refine aImp_i ?_; intro _))
    all_goals (try (first | omega | exact bI_01 _ | exact bI_lo _ | exact bI_hi _ | exact bI_hi' _ | exact trivial | exact Or.inl rfl | exact Or.inr rfl | (exfalso; omega)))
    · next hna =>
      have e : insF (ahM mG mU) g (k + 1) f = aUp f ((k : Int) + 1) g := by rw [insF]; exact cif_f hna _ _
      rw [e] at hQ
      exact hQ
    · next hya =>
      have e : insF (ahM mG mU) g (k + 1) f = insF (ahM mG mU) g k (aUp f ((k : Int) + 1) (f k)) := by rw [insF]; exact cif_t hya _ _
      rw [ec, ec2]
      refine ih (aUp f ((k : Int) + 1) (f k)) (by omega) (fun i h0 h1 => ?_) ?_
      · rw [aUp_n _ _ (by omega)]; exact hin i h0 (by omega)
      · rw [← e]; exact hQ
theorem c_insert1 {X : AX} (d : Nat) (sb ss : Nat) (T : TyT) (G : TyG) (L : TyL) (O : TyO) (R : TyR) (P : TyP) (C : TyC) (B D : TyB) (S N : TyS) (t : AH) (mG : TyMG) (mU : TyMU) (g : Int) {Q : AQ} (hg : 0 ≤ g ∧ g < 32) (hn : 0 ≤ O.2 ∧ O.2 < 32) (hG : kG mG) (hU : kU mU) (hv : rGv G mG) (hB : rB D mU) (hin : ∀ i : Int, 0 ≤ i → i < O.2 → (0 ≤ O.1 i ∧ O.1 i < 32) ∧ ¬ lnM mG mU (O.1 i) = -1)
    (h1 : lnM mG mU g = -1 → Q none (CH sb ss T G L O R P C B D S N t)) (h2 : ¬ lnM mG mU g = -1 → Q none (CH sb ss T G L (insF (ahM mG mU) g O.2.toNat O.1, O.2 + 1) R P C B D S N t)) :
    AW X (d + 4) 0 0 19 0 (aEntry 19 [rf 14, iv g, rf 3, rf 36]) [] (CH sb ss T G L O R P C B D S N t) Q := by
  have hG' := hG
  obtain ⟨g0, g1, g2, g3, g4, g5⟩ := hG'
  have hU' := hU
  obtain ⟨u0, u1, u2, u3⟩ := hU'
  have hB' := hB
  obtain ⟨b0, b1, b2, b3⟩ := hB'
  have hv' := hv
  obtain ⟨v0, v1, v2⟩ := hv'
  have a1 := g1 (6 * g)
  have a2 := g2 g hg.1 hg.2
  have b1p := u1 (mG.1 (6 * g)) (by omega) (by omega)
  have vp := (v1 g hg.1 hg.2).1
  have c1 : D.1 (G.1 g) = lnM mG mU g := by rw [vp]; exact b1 _ (by omega) (by omega)
  have c3 : lnM mG mU g = mU.1 (mG.1 (6 * g)) := rfl
  refine aw_tree (I0_ok X _) [(true, 49)] [] rfl ?_
  repeat' (first | refine And.intro ?_ ?_ | (refine aImp_e0 ?_; intro _) | (refine aImp_n0 ?_; intro _) | (refine aImp_i ?_; intro _))
  all_goals (try (first | omega | exact bI_01 _ | exact bI_lo _ | exact bI_hi _ | exact bI_hi' _ | exact trivial | exact Or.inl rfl | exact Or.inr rfl | (exfalso; omega)))
  refine aw_cf0 (c_hasKind1 _ sb ss T G L O R P C B D S N t (G.1 g) (by omega) (by unfold inR; omega)) rfl ?_
  refine aw_tree (I0_ok X _) [(true, 49)] [15] rfl ?_
  repeat' (first | refine And.intro ?_ ?_ | (refine aImp_e0 ?_; intro _) | (refine aImp_n0 ?_; intro _) | (refine aImp_i ?_; intro _))
  all_goals (try (first | omega | exact bI_01 _ | exact bI_lo _ | exact bI_hi _ | exact bI_hi' _ | exact trivial | exact Or.inl rfl | exact Or.inr rfl | (exfalso; omega)))
  · have en : O.2 = (O.2.toNat : Int) := by omega
    have goal := c_ins_shift1 (X := X) (Q := Q) d sb ss T G L R P C B D S N t mG mU g O.2 hg (by omega) hn hG hU hv hB O.2.toNat O.1 (by omega) (fun i h0 h1 => hin i h0 (by omega)) (h2 (by omega))
    rw [← en] at goal
    exact goal
  · exact h1 (by omega)
theorem c_indexOf_loop {X : AX} (d : Nat) (sb ss : Nat) (T : TyT) (G : TyG) (L : TyL) (O : TyO) (R : TyR) (P : TyP) (C : TyC) (B D : TyB) (S N : TyS) (t : AH) (g : Int) {Q : AQ} (hg : inR g) (hn : 0 ≤ O.2 ∧ O.2 ≤ 32) (hf : ∀ i, 0 ≤ i → i < O.2 → inR (O.1 i))
    (h1 : (∀ i, 0 ≤ i → i < O.2 → O.1 i ≠ g) → Q (some (iv (-1))) (CH sb ss T G L O R P C B D S N t)) (h2 : ∀ k, 0 ≤ k → k < O.2 → O.1 k = g → Q (some (iv k)) (CH sb ss T G L O R P C B D S N t)) :
    ∀ (m : Nat) (k : Int), 0 ≤ k → k + m = O.2 → (∀ i, 0 ≤ i → i < k → O.1 i ≠ g) → AW X (d + 2) 0 0 22 2 [rf 14, iv g, iv k] [] (CH sb ss T G L O R P C B D S N t) Q := by
  unfold inR at hg
  intro m
  induction m with
  | zero =>
    intro k k0 k1 hk
    refine aw_tree (I0_ok X _) [(true, 49)] [2] rfl ?_
    repeat' (first | refine And.intro ?_ ?_ | (refine aImp_e0 ?_; intro _) | (refine aImp_n0 ?_; intro _) | (refine aImp_i ?_; intro _))
    all_goals (try (first | omega | exact bI_01 _ | exact bI_lo _ | exact bI_hi _ | exact bI_hi' _ | exact trivial | exact Or.inl rfl | exact Or.inr rfl | (exfalso; omega)))
    exact h1 (fun i i0 i1 => hk i i0 (by omega))
  | succ m ih =>
    intro k k0 k1 hk
    have hfk := hf k k0 (by omega)
    unfold inR at hfk
    refine aw_tree (I0_ok X _) [(true, 49)] [2] rfl ?_
    repeat' (first | refine And.intro ?_ ?_ | (refine aImp_e0 ?_; intro _) | (refine aImp_n0 ?_; intro _) | (refine aImp_i ?_; intro _))
    all_goals (try (first | omega | exact bI_01 _ | exact bI_lo _ | exact bI_hi _ | exact bI_hi' _ | exact trivial | exact Or.inl rfl | exact Or.inr rfl | (exfalso; omega)))
    · next hne =>
      refine ih (k + 1) (by omega) (by omega) (fun i i0 i1 => ?_)
      by_cases h : i = k
      · rw [h]; exact hne
      · exact hk i i0 (by omega)
    · next he => exact h2 k k0 (by omega) he
theorem c_indexOf {X : AX} (d : Nat) (sb ss : Nat) (T : TyT) (G : TyG) (L : TyL) (O : TyO) (R : TyR) (P : TyP) (C : TyC) (B D : TyB) (S N : TyS) (t : AH) (g : Int) {Q : AQ} (hg : inR g) (hn : 0 ≤ O.2 ∧ O.2 ≤ 32) (hf : ∀ i, 0 ≤ i → i < O.2 → inR (O.1 i))
    (h1 : (∀ i, 0 ≤ i → i < O.2 → O.1 i ≠ g) → Q (some (iv (-1))) (CH sb ss T G L O R P C B D S N t)) (h2 : ∀ k, 0 ≤ k → k < O.2 → O.1 k = g → Q (some (iv k)) (CH sb ss T G L O R P C B D S N t)) :
    AW X (d + 2) 0 0 22 0 (aEntry 22 [rf 14, iv g]) [] (CH sb ss T G L O R P C B D S N t) Q := by
  refine aw_tree (I0_ok X _) [(true, 49)] [2] rfl ?_
  exact c_indexOf_loop d sb ss T G L O R P C B D S N t g hg hn hf h1 h2 O.2.toNat 0 (by omega) (by omega) (fun i i0 i1 => by omega)
theorem c_rank {X : AX} (d : Nat) (sb ss : Nat) (T : TyT) (G : TyG) (L : TyL) (O : TyO) (R : TyR) (P : TyP) (C : TyC) (B D : TyB) (S N : TyS) (t : AH) (g : Int) {Q : AQ} (hg : inR g) (hn : 0 ≤ O.2 ∧ O.2 ≤ 32) (hf : ∀ i, 0 ≤ i → i < O.2 → inR (O.1 i))
    (h1 : (∀ i, 0 ≤ i → i < O.2 → O.1 i ≠ g) → Q (some (iv (-1))) (CH sb ss T G L O R P C B D S N t)) (h2 : ∀ k, 0 ≤ k → k < O.2 → O.1 k = g → Q (some (iv k)) (CH sb ss T G L O R P C B D S N t)) :
    AW X (d + 3) 0 0 87 0 (aEntry 87 [rf 0, iv g]) [] (CH sb ss T G L O R P C B D S N t) Q := by
  refine aw_tree (I0_ok X _) [(true, 49)] [] rfl ?_
  refine aw_ck0 (c_indexOf d sb ss T G L O R P C B D S N t g hg hn hf (fun h => ?_) (fun k k0 k1 hk => ?_)) rfl
  · refine aw_tree (I0_ok X _) [(true, 49)] [] rfl ?_
    exact h1 h
  · refine aw_tree (I0_ok X _) [(true, 49)] [] rfl ?_
    exact h2 k k0 k1 hk
theorem c_ranked {X : AX} (d : Nat) (sb ss : Nat) (T : TyT) (G : TyG) (L : TyL) (O : TyO) (R : TyR) (P : TyP) (C : TyC) (B D : TyB) (S N : TyS) (t : AH) (i : Int) (hi : inR i) (hn : 0 ≤ O.2 ∧ O.2 ≤ 32) : AF X (d + 3) 0 0 88 [rf 0, iv i] (CH sb ss T G L O R P C B D S N t) (some (iv (if 0 ≤ i ∧ i < O.2 then O.1 i else -1))) (CH sb ss T G L O R P C B D S N t) := by
  unfold inR at hi
  refine aw_tree (I0_ok X _) [(true, 49)] [] rfl ?_
  repeat' (first | refine And.intro ?_ ?_ | (refine aImp_e0 ?_; intro _) | (refine aImp_n0 ?_; intro _) | (refine aImp_i ?_; intro _))
  all_goals (try (first | omega | exact bI_01 _ | exact bI_lo _ | exact bI_hi _ | exact bI_hi' _ | exact trivial | exact Or.inl rfl | exact Or.inr rfl | (exfalso; omega)))
  all_goals first | rfl | rw [if_pos (by omega)] | rw [if_neg (by omega)]
theorem c_rem_shift {X : AX} (d : Nat) (sb ss : Nat) (T : TyT) (G : TyG) (L : TyL) (R : TyR) (P : TyP) (C : TyC) (B D : TyB) (S N : TyS) (t : AH) (g n j : Int) (f0 : FN) {Q : AQ} (hn : 0 ≤ j ∧ j ≤ n ∧ n < 32)
    (hQ : ∀ f : FN, (∀ k, 0 ≤ k → k < j → f k = f0 k) → (∀ k, j ≤ k → k < n → f k = f0 (k + 1)) → Q none (CH sb ss T G L (f, n) R P C B D S N t)) :
    ∀ (m : Nat) (k : Int) (f : FN), j ≤ k → k + m = n → (∀ i, 0 ≤ i → i < j → f i = f0 i) → (∀ i, j ≤ i → i < k → f i = f0 (i + 1)) → (∀ i, k ≤ i → f i = f0 i) → AW X (d + 2) 0 0 20 16 [rf 14, iv g, iv j, iv k] [] (CH sb ss T G L (f, n) R P C B D S N t) Q := by
  intro m
  induction m with
  | zero =>
    intro k f k0 k1 a1 a2 a3
    refine aw_tree (I0_ok X _) [(true, 49)] [16] rfl ?_
    repeat' (first | refine And.intro ?_ ?_ | (refine aImp_e0 ?_; intro _) | (refine aImp_n0 ?_; intro _) | (refine aImp_i ?_; intro _))
    all_goals (try (first | omega | exact bI_01 _ | exact bI_lo _ | exact bI_hi _ | exact bI_hi' _ | exact trivial | exact Or.inl rfl | exact Or.inr rfl | (exfalso; omega)))
    exact hQ f a1 (fun i i0 i1 => a2 i i0 (by omega))
  | succ m ih =>
    intro k f k0 k1 a1 a2 a3
    refine aw_tree (I0_ok X _) [(true, 49)] [16] rfl ?_
    repeat' (first | refine And.intro ?_ ?_ | (refine aImp_e0 ?_; intro _) | (refine aImp_n0 ?_; intro _) | (refine aImp_i ?_; intro _))
    all_goals (try (first | omega | exact bI_01 _ | exact bI_lo _ | exact bI_hi _ | exact bI_hi' _ | exact trivial | exact Or.inl rfl | exact Or.inr rfl | (exfalso; omega)))
    refine ih (k + 1) (aUp f k (f (k + 1))) (by omega) (by omega) (fun i i0 i1 => ?_) (fun i i0 i1 => ?_) (fun i i0 => ?_)
    · rw [aUp_n _ _ (by omega)]; exact a1 i i0 i1
    · by_cases h : i = k
      · rw [h, aUp_s]; exact a3 (k + 1) (by omega)
      · rw [aUp_n _ _ h]; exact a2 i i0 (by omega)
    · rw [aUp_n _ _ (by omega)]; exact a3 i (by omega)
theorem c_remove {X : AX} (d : Nat) (sb ss : Nat) (T : TyT) (G : TyG) (L : TyL) (O : TyO) (R : TyR) (P : TyP) (C : TyC) (B D : TyB) (S N : TyS) (t : AH) (g : Int) {Q : AQ} (hg : inR g) (hn : 0 ≤ O.2 ∧ O.2 ≤ 32) (hf : ∀ i, 0 ≤ i → i < O.2 → inR (O.1 i))
    (h1 : (∀ i, 0 ≤ i → i < O.2 → O.1 i ≠ g) → Q none (CH sb ss T G L O R P C B D S N t))
    (h2 : ∀ j, 0 ≤ j → j < O.2 → O.1 j = g → ∀ f : FN, (∀ k, 0 ≤ k → k < j → f k = O.1 k) → (∀ k, j ≤ k → k < O.2 - 1 → f k = O.1 (k + 1)) → Q none (CH sb ss T G L (f, O.2 - 1) R P C B D S N t)) :
    AW X (d + 4) 0 0 20 0 (aEntry 20 [rf 14, iv g]) [] (CH sb ss T G L O R P C B D S N t) Q := by
  refine aw_tree (I0_ok X _) [(true, 49)] [] rfl ?_
  refine aw_ck0 (c_indexOf _ sb ss T G L O R P C B D S N t g hg hn hf (fun h => ?_) (fun k k0 k1 hk => ?_)) rfl
  · refine aw_tree (I0_ok X _) [(true, 49)] [16] rfl ?_
    repeat' (first | refine And.intro ?_ ?_ | (refine aImp_e0 ?_; intro _) | (refine aImp_n0 ?_; intro _) | (refine aImp_i ?_; intro _))
    all_goals (try (first | omega | exact bI_01 _ | exact bI_lo _ | exact bI_hi _ | exact bI_hi' _ | exact trivial | exact Or.inl rfl | exact Or.inr rfl | (exfalso; omega)))
    exact h1 h
  · refine aw_tree (I0_ok X _) [(true, 49)] [16] rfl ?_
    repeat' (first | refine And.intro ?_ ?_ | (refine aImp_e0 ?_; intro _) | (refine aImp_n0 ?_; intro _) | (refine aImp_i ?_; intro _))
    all_goals (try (first | omega | exact bI_01 _ | exact bI_lo _ | exact bI_hi _ | exact bI_hi' _ | exact trivial | exact Or.inl rfl | exact Or.inr rfl | (exfalso; omega)))
    exact c_rem_shift _ sb ss T G L R P C B D S N t g (O.2 - 1) k O.1 (by omega) (h2 k k0 k1 hk) (O.2 - 1 - k).toNat k O.1 (by omega) (by omega) (fun _ _ _ => rfl) (fun i i0 i1 => by omega) (fun _ _ => rfl)
theorem c_rebuild_loop0 {X : AX} (d : Nat) (sb ss : Nat) (T : TyT) (G : TyG) (L : TyL) (R : TyR) (P : TyP) (C : TyC) (B D : TyB) (S N : TyS) (t : AH) (mG : TyMG) (mU : TyMU) (f0 : FN) {Q : AQ} (hG : kG mG) (hU : kU mU) (hv : rGv G mG) (hB : rB B mU)
    (hQ : Q none (CH sb ss T G L (ordF (ahM mG mU) (inM mG mU) mG.2.2.2.toNat (f0, 0)) R P C B D S N t)) :
    ∀ (m g : Nat), g + m = mG.2.2.2.toNat → AW X (d + 5) 0 0 21 5 [rf 14, rf 3, rf 31, iv g] [] (CH sb ss T G L (ordF (ahM mG mU) (inM mG mU) g (f0, 0)) R P C B D S N t) Q := by
  have hn := hG.1
  have hv' := hv
  obtain ⟨v0, v1, v2⟩ := hv'
  intro m
  induction m with
  | zero =>
    intro g hg
    refine aw_tree (I0_ok X _) [(true, 49)] [5] rfl ?_
    repeat' (first | refine And.intro ?_ ?_ | (refine aImp_e0 ?_; intro _) | (refine aImp_n0 ?_; intro _) | (refine aImp_i ?_; intro _))
    all_goals (try (first | omega | exact bI_01 _ | exact bI_lo _ | exact bI_hi _ | exact bI_hi' _ | exact trivial | exact Or.inl rfl | exact Or.inr rfl | (exfalso; omega)))
    have e : g = mG.2.2.2.toNat := by omega
    rw [← e] at hQ
    exact hQ
  | succ m ih =>
    intro g hg
    obtain ⟨ho, hle, _⟩ := ordF_ok (ahM_sto mG mU) (inM mG mU) f0 g
    have hc := ho.1
    have hgo := v2 g (by omega) (by omega)
    have hg01 := hG.2.2.2.2.1 g
    refine aw_tree (I0_ok X _) [(true, 49)] [5] rfl ?_
    repeat' (first | refine And.intro ?_ ?_ | (refine aImp_e0 ?_; intro _) | (refine aImp_n0 ?_; intro _) | (refine aImp_i ?_; intro _))
    all_goals (try (first | omega | exact bI_01 _ | exact bI_lo _ | exact bI_hi _ | exact bI_hi' _ | exact trivial | exact Or.inl rfl | exact Or.inr rfl | (exfalso; omega)))
    · have hin : ¬ inM mG mU g := fun h => by have := h.2.1; omega
      have e : ordF (ahM mG mU) (inM mG mU) (g + 1) (f0, 0) = ordF (ahM mG mU) (inM mG mU) g (f0, 0) := by
        rw [ordF]; exact cif_f hin _ _
      have := ih (g + 1) (by omega)
      rw [e] at this
      exact this
    · refine aw_ck0 (c_insert0 d sb ss T G L (ordF (ahM mG mU) (inM mG mU) g (f0, 0)) R P C B D S N t mG mU g (by omega) (by omega) hG hU hv hB (fun i i0 i1 => ?_) (fun h => ?_) (fun h => ?_)) rfl
      · have := (ho.2.2.1 i i0 i1).1
        exact ⟨by have := this.1; omega, this.2.2⟩
      · have hin : ¬ inM mG mU g := fun k => k.2.2 h
        have e : ordF (ahM mG mU) (inM mG mU) (g + 1) (f0, 0) = ordF (ahM mG mU) (inM mG mU) g (f0, 0) := by
          rw [ordF]; exact cif_f hin _ _
        refine aw_tree (I0_ok X _) [(true, 49)] [5] rfl ?_
        have := ih (g + 1) (by omega)
        rw [e] at this
        exact this
      · have hin : inM mG mU g := ⟨by omega, by omega, h⟩
        have e : ordF (ahM mG mU) (inM mG mU) (g + 1) (f0, 0) = (insF (ahM mG mU) g (ordF (ahM mG mU) (inM mG mU) g (f0, 0)).2.toNat (ordF (ahM mG mU) (inM mG mU) g (f0, 0)).1, (ordF (ahM mG mU) (inM mG mU) g (f0, 0)).2 + 1) := by
          rw [ordF]; exact cif_t hin _ _
        refine aw_tree (I0_ok X _) [(true, 49)] [5] rfl ?_
        have := ih (g + 1) (by omega)
        rw [e] at this
        exact this
theorem c_rebuild0 {X : AX} (d : Nat) (sb ss : Nat) (T : TyT) (G : TyG) (L : TyL) (O : TyO) (R : TyR) (P : TyP) (C : TyC) (B D : TyB) (S N : TyS) (t : AH) (mG : TyMG) (mU : TyMU) (hG : kG mG) (hU : kU mU) (hv : rGv G mG) (hB : rB B mU) :
    AF X (d + 5) 0 0 21 [rf 14, rf 3, rf 31] (CH sb ss T G L O R P C B D S N t) none (CH sb ss T G L (ordM mG mU O) R P C B D S N t) := by
  refine aw_tree (I0_ok X _) [(true, 49)] [5] rfl ?_
  exact c_rebuild_loop0 d sb ss T G L R P C B D S N t mG mU O.1 hG hU hv hB ⟨rfl, rfl⟩ mG.2.2.2.toNat 0 (by omega)
theorem c_rebuild_loop1 {X : AX} (d : Nat) (sb ss : Nat) (T : TyT) (G : TyG) (L : TyL) (R : TyR) (P : TyP) (C : TyC) (B D : TyB) (S N : TyS) (t : AH) (mG : TyMG) (mU : TyMU) (f0 : FN) {Q : AQ} (hG : kG mG) (hU : kU mU) (hv : rGv G mG) (hB : rB D mU)
    (hQ : Q none (CH sb ss T G L (ordF (ahM mG mU) (inM mG mU) mG.2.2.2.toNat (f0, 0)) R P C B D S N t)) :
    ∀ (m g : Nat), g + m = mG.2.2.2.toNat → AW X (d + 5) 0 0 21 5 [rf 14, rf 3, rf 36, iv g] [] (CH sb ss T G L (ordF (ahM mG mU) (inM mG mU) g (f0, 0)) R P C B D S N t) Q := by
  have hn := hG.1
  have hv' := hv
  obtain ⟨v0, v1, v2⟩ := hv'
  intro m
  induction m with
  | zero =>
    intro g hg
    refine aw_tree (I0_ok X _) [(true, 49)] [5] rfl ?_
    repeat' (first | refine And.intro ?_ ?_ | (refine aImp_e0 ?_; intro _) | (refine aImp_n0 ?_; intro _) | (refine aImp_i ?_; intro _))
    all_goals (try (first | omega | exact bI_01 _ | exact bI_lo _ | exact bI_hi _ | exact bI_hi' _ | exact trivial | exact Or.inl rfl | exact Or.inr rfl | (exfalso; omega)))
    have e : g = mG.2.2.2.toNat := by omega
    rw [← e] at hQ
    exact hQ
  | succ m ih =>
    intro g hg
    obtain ⟨ho, hle, _⟩ := ordF_ok (ahM_sto mG mU) (inM mG mU) f0 g
    have hc := ho.1
    have hgo := v2 g (by omega) (by omega)
    have hg01 := hG.2.2.2.2.1 g
    refine aw_tree (I0_ok X _) [(true, 49)] [5] rfl ?_
    repeat' (first | refine And.intro ?_ ?_ | (refine aImp_e0 ?_; intro _) | (refine aImp_n0 ?_; intro _) | (refine aImp_i ?_; intro _))
    all_goals (try (first | omega | exact bI_01 _ | exact bI_lo _ | exact bI_hi _ | exact bI_hi' _ | exact trivial | exact Or.inl rfl | exact Or.inr rfl | (exfalso; omega)))
    · have hin : ¬ inM mG mU g := fun h => by have := h.2.1; omega
      have e : ordF (ahM mG mU) (inM mG mU) (g + 1) (f0, 0) = ordF (ahM mG mU) (inM mG mU) g (f0, 0) := by
        rw [ordF]; exact cif_f hin _ _
      have := ih (g + 1) (by omega)
      rw [e] at this
      exact this
    · refine aw_ck0 (c_insert1 d sb ss T G L (ordF (ahM mG mU) (inM mG mU) g (f0, 0)) R P C B D S N t mG mU g (by omega) (by omega) hG hU hv hB (fun i i0 i1 => ?_) (fun h => ?_) (fun h => ?_)) rfl
      · have := (ho.2.2.1 i i0 i1).1
        exact ⟨by have := this.1; omega, this.2.2⟩
      · have hin : ¬ inM mG mU g := fun k => k.2.2 h
        have e : ordF (ahM mG mU) (inM mG mU) (g + 1) (f0, 0) = ordF (ahM mG mU) (inM mG mU) g (f0, 0) := by
          rw [ordF]; exact cif_f hin _ _
        refine aw_tree (I0_ok X _) [(true, 49)] [5] rfl ?_
        have := ih (g + 1) (by omega)
        rw [e] at this
        exact this
      · have hin : inM mG mU g := ⟨by omega, by omega, h⟩
        have e : ordF (ahM mG mU) (inM mG mU) (g + 1) (f0, 0) = (insF (ahM mG mU) g (ordF (ahM mG mU) (inM mG mU) g (f0, 0)).2.toNat (ordF (ahM mG mU) (inM mG mU) g (f0, 0)).1, (ordF (ahM mG mU) (inM mG mU) g (f0, 0)).2 + 1) := by
          rw [ordF]; exact cif_t hin _ _
        refine aw_tree (I0_ok X _) [(true, 49)] [5] rfl ?_
        have := ih (g + 1) (by omega)
        rw [e] at this
        exact this
theorem c_rebuild1 {X : AX} (d : Nat) (sb ss : Nat) (T : TyT) (G : TyG) (L : TyL) (O : TyO) (R : TyR) (P : TyP) (C : TyC) (B D : TyB) (S N : TyS) (t : AH) (mG : TyMG) (mU : TyMU) (hG : kG mG) (hU : kU mU) (hv : rGv G mG) (hB : rB D mU) :
    AF X (d + 5) 0 0 21 [rf 14, rf 3, rf 36] (CH sb ss T G L O R P C B D S N t) none (CH sb ss T G L (ordM mG mU O) R P C B D S N t) := by
  refine aw_tree (I0_ok X _) [(true, 49)] [5] rfl ?_
  exact c_rebuild_loop1 d sb ss T G L R P C B D S N t mG mU O.1 hG hU hv hB ⟨rfl, rfl⟩ mG.2.2.2.toNat 0 (by omega)

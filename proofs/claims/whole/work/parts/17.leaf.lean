theorem bI_lo (p : Prop) : -2147483648 ≤ bI p := by have := bI_r p; omega
theorem bI_hi (p : Prop) : bI p < 2147483648 := by have := bI_r p; omega
theorem bI_hi' (p : Prop) : bI p ≤ 1 := (bI_r p).2
theorem s_isWithin {X : AX} (d : Nat) (h : AH) (a b c : Int) (ha : inR a) (hb : inR b) (hc : inR c) : AF X (d + 1) 0 0 100 [iv a, iv b, iv c] h (some (iv (bI (b ≤ a ∧ a ≤ c)))) h := by
  refine aw_tree (In_ok X 0) [] [] rfl ?_
  repeat' (first | refine And.intro ?_ ?_ | (refine aImp_e0 ?_; intro _) | (refine aImp_n0 ?_; intro _) | (refine aImp_i ?_; intro _))
  all_goals (first | exact ha.1 | exact ha.2 | exact hb.1 | exact hb.2 | exact hc.1 | exact hc.2 | exact Or.inl rfl | exact Or.inr rfl | rfl | rw [bI_f (by omega)] | rw [bI_t (by omega)])
theorem s_is {X : AX} (d : Nat) (h : AH) (a b c : Int) (ha : inR a) (hb : inR b) (hc : inR c) : AF X (d + 1) 0 0 101 [iv a, iv b, iv c] h (some (iv (bI (b ≤ a ∧ a ≤ c)))) h := by
  refine aw_tree (In_ok X 0) [] [] rfl ?_
  repeat' (first | refine And.intro ?_ ?_ | (refine aImp_e0 ?_; intro _) | (refine aImp_n0 ?_; intro _) | (refine aImp_i ?_; intro _))
  all_goals (first | exact ha.1 | exact ha.2 | exact hb.1 | exact hb.2 | exact hc.1 | exact hc.2 | exact Or.inl rfl | exact Or.inr rfl | rfl | rw [bI_f (by omega)] | rw [bI_t (by omega)])
theorem s_isLetter {X : AX} (d : Nat) (h : AH) (a : Int) (ha : inR a) : AF X (d + 1) 0 0 113 [iv a] h (some (iv (bI (97 ≤ a ∧ a ≤ 122)))) h := by
  refine aw_tree (In_ok X 0) [] [] rfl ?_
  repeat' (first | refine And.intro ?_ ?_ | (refine aImp_e0 ?_; intro _) | (refine aImp_n0 ?_; intro _) | (refine aImp_i ?_; intro _))
  all_goals (first | exact ha.1 | exact ha.2 | exact Or.inl rfl | exact Or.inr rfl | omega | rfl | rw [bI_f (by omega)] | rw [bI_t (by omega)])
theorem s_max {X : AX} (d : Nat) (h : AH) (a b : Int) (ha : inR a) (hb : inR b) : AF X (d + 1) 0 0 146 [iv a, iv b] h (some (iv (max a b))) h := by
  refine aw_tree (In_ok X 0) [] [] rfl ?_
  repeat' (first | refine And.intro ?_ ?_ | (refine aImp_e0 ?_; intro _) | (refine aImp_n0 ?_; intro _) | (refine aImp_i ?_; intro _))
  all_goals (first | exact ha.1 | exact ha.2 | exact hb.1 | exact hb.2 | rfl | (show some (Sum.inl _) = some (Sum.inl _); congr 2; omega))
theorem s_min {X : AX} (d : Nat) (h : AH) (a b : Int) (ha : inR a) (hb : inR b) : AF X (d + 1) 0 0 147 [iv a, iv b] h (some (iv (min a b))) h := by
  refine aw_tree (In_ok X 0) [] [] rfl ?_
  repeat' (first | refine And.intro ?_ ?_ | (refine aImp_e0 ?_; intro _) | (refine aImp_n0 ?_; intro _) | (refine aImp_i ?_; intro _))
  all_goals (first | exact ha.1 | exact ha.2 | exact hb.1 | exact hb.2 | rfl | (show some (Sum.inl _) = some (Sum.inl _); congr 2; omega))
theorem s_state {X : AX} (d : Nat) (h : AH) (i l r p : Int) : AF X (d + 1) 0 0 127 [iv i, iv l, iv r, iv p] h (some (iv (((33 * i + l + 1) * 6 + r) * 41 + p))) h := by
  refine aw_tree (In_ok X 0) [] [] rfl ?_
  exact ⟨rfl, rfl⟩
theorem I0_ok1 (X : AX) : AIok X 1 I0 := by
  intro mj h as C r h' hi hC d
  unfold I0 at hi
  split at hi
  · split at hi
    · cases hi; exact s_isWithin d h _ _ _ hC.1 hC.2.1 hC.2.2
    · cases hi
  · split at hi
    · cases hi; exact s_is d h _ _ _ hC.1 hC.2.1 hC.2.2
    · cases hi
  · split at hi
    · cases hi; exact s_isLetter d h _ hC
    · cases hi
  · split at hi
    · cases hi; exact s_max d h _ _ hC.1 hC.2
    · cases hi
  · split at hi
    · cases hi; exact s_min d h _ _ hC.1 hC.2
    · cases hi
  · split at hi
    · cases hi; exact s_state d h _ _ _ _
    · cases hi
  · cases hi
theorem I0_ok (X : AX) (k : Nat) : AIok X (k + 1) I0 := fun mj h as C r h' hi hC d => by
  have := I0_ok1 X mj h as C r h' hi hC (d + k)
  exact this

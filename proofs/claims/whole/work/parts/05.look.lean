abbrev aI (z : Int) : AV := .inl z
abbrev aR (k : Nat) : AV := .inr (.inr (.inl (some k)))
-- Guests.isBarred: a test
set_option maxRecDepth 10000 in
theorem t_isB (X : AX) (d : Nat) (a b cnt : Int) (f : Int → Int) (c0 c1 : AC) (ha : 0 ≤ a ∧ a < 32) (hb : 0 ≤ b ∧ b < 32) (v0 v1 v2 v3 v4 v5 v6 : AV) (rest : AH) :
   AW X d 0 0 12 0 [aR 2, aI a, aI b] [] (c0 :: c1 :: .inr (.inr (2, [v0, v1, v2, v3, v4, v5, v6, aR 3, aI cnt, v0, v0])) :: .inl (0, 32, f) :: rest) (fun r h => r = some (aI (if bAnd (bUshr (f a) b) 1 = 0 then 0 else 1)) ∧ h = (c0 :: c1 :: .inr (.inr (2, [v0, v1, v2, v3, v4, v5, v6, aR 3, aI cnt, v0, v0])) :: .inl (0, 32, f) :: rest)) := by
  refine aw_seg 999 [] rfl ⟨trivial, by unfold aInB; omega⟩ ?_
  trace_state
  sorry

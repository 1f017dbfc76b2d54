theorem law_AW : ∀ X : AX, X.1 ≤ 3584 → (∀ i, inR (X.2 i)) → AW X 12 600000 7302249 156 0 [.inr (.inr (.inr 0)), jk, jk, jk] [] [] (fun r _ => r = some (.inl 1)) := sorry

/-! ===== the office's order ===== -/
def rGv (G : TyG) (mG : TyMG) : Prop := G.2.2.2.2.2.2.2.2.1 = mG.2.2.2 ∧ (∀ g, 0 ≤ g → g < 32 → G.1 g = mG.1 (6 * g) ∧ G.2.1 g = mG.1 (6 * g + 1) ∧ G.2.2.1 g = mG.1 (6 * g + 2) ∧ G.2.2.2.2.2.1 g = mG.1 (6 * g + 3) ∧ G.2.2.2.1 g = mG.1 (6 * g + 4) ∧ G.2.2.2.2.1 g = mG.1 (6 * g + 5)) ∧ (∀ g, 0 ≤ g → g < 32 → G.2.2.2.2.2.2.1 g = mG.2.1 g)
def stB (b : TyB) (x : Int) : Int := if x = 0 then 0 else b.2.1 (x - 1)
def rB (b : TyB) (u : TyMU) : Prop := b.2.2.2.2.2 = u.2.2.2 ∧ (∀ k, 0 ≤ k → k < 8 → b.1 k = u.1 k) ∧ (∀ x, 0 ≤ x → x < u.2.2.2 → 0 ≤ stB b x ∧ b.2.1 x = stB b x + u.2.1 x ∧ b.2.1 x ≤ 25) ∧ (∀ x k, 0 ≤ x → x < u.2.2.2 → 0 ≤ k → k < u.2.1 x → b.2.2.1 (stB b x + k) = u.2.2.1 (80 * x + 2 * k) + 10 ∧ b.2.2.2.1 (stB b x + k) = (if u.2.2.1 (80 * x + 2 * k + 1) = -1 then 1 else 0))
theorem valC_eq {G : TyG} {mG : TyMG} (hv : rGv G mG) {s g : Int} (hs : 1 ≤ s ∧ s ≤ 5) (hg : 0 ≤ g ∧ g < 32) : valC G (s + 10) g = mG.1 (6 * g + s) := by
  obtain ⟨_, v, _⟩ := hv
  obtain ⟨v0, v1, v2, v3, v4, v5⟩ := v g hg.1 hg.2
  unfold valC
  have : s = 1 ∨ s = 2 ∨ s = 3 ∨ s = 4 ∨ s = 5 := by omega
  rcases this with rfl | rfl | rfl | rfl | rfl
  · exact v1
  · exact v2
  · exact v3
  · exact v4
  · exact v5
set_option maxRecDepth 100000 in
theorem c_isAhead_loop0 {X : AX} (d : Nat) (sb ss : Nat) (T : TyT) (G : TyG) (L : TyL) (O : TyO) (R : TyR) (P : TyP) (C : TyC) (B D : TyB) (S N : TyS) (t : AH) (mG : TyMG) (mU : TyMU) (p q x : Int) {Q : AQ} (hp : 0 ≤ p ∧ p < 32) (hq : 0 ≤ q ∧ q < 32) (hG : kG mG) (hU : kU mU) (hv : rGv G mG) (hB : rB B mU) (hx : 0 ≤ x ∧ x < mU.2.2.2) :
    ∀ (m : Nat) (k : Int) (v7 v8 : AV), aIsLong v7 = false → 0 ≤ k → k + m = mU.2.1 x → Q (some (iv (bI (ahd (keyC mG mU x p q) (p < q) m k)))) (CH sb ss T G L O R P C B D S N t) → AW X (d + 3) 0 0 45 45 [rf 31, iv p, iv q, rf 3, iv x, iv x, iv (stB B x + k), v7, v8] [] (CH sb ss T G L O R P C B D S N t) Q := by
  have hG' := hG
  obtain ⟨g0, g1, g2, g3, g4, g5⟩ := hG'
  obtain ⟨u0, u1, u2, u3⟩ := hU
  obtain ⟨b0, b1, b2, b3⟩ := hB
  have ux := u2 x hx.1 hx.2
  have bx := b2 x hx.1 hx.2
  intro m
  induction m with
  | zero =>
    intro k v7 v8 hl k0 hk hQ
    refine aw_tree (I0_ok X _) [(true, 49)] [45] rfl ?_
    repeat' (first | refine And.intro ?_ ?_ | (refine aImp_e0 ?_; intro _) | (refine aImp_n0 ?_; intro _) | (refine aImp_i ?_; intro _))
    all_goals (try (first | omega | exact bI_01 _ | exact bI_lo _ | exact bI_hi _ | exact bI_hi' _ | exact trivial | exact Or.inl rfl | exact Or.inr rfl | (exfalso; omega)))
    · rw [show bI (ahd (keyC mG mU x p q) (p < q) 0 k) = 0 from bI_f (fun h => by unfold ahd at h; omega)] at hQ
      exact hQ
    · rw [show bI (ahd (keyC mG mU x p q) (p < q) 0 k) = 1 from bI_t (by unfold ahd; omega)] at hQ
      exact hQ
  | succ m ih =>
    intro k v7 v8 hl k0 hk hQ
    have uk := u3 x k hx.1 hx.2 k0 (by omega)
    obtain ⟨bk1, bk2⟩ := b3 x k hx.1 hx.2 k0 (by omega)
    have w1 := g1 (6 * p + mU.2.2.1 (80 * x + 2 * k))
    have w2 := g1 (6 * q + mU.2.2.1 (80 * x + 2 * k))
    have e1 : valC G (B.2.2.1 (stB B x + k)) p = mG.1 (6 * p + mU.2.2.1 (80 * x + 2 * k)) := by rw [bk1]; exact valC_eq hv uk.1 hp
    have e2 : valC G (B.2.2.1 (stB B x + k)) q = mG.1 (6 * q + mU.2.2.1 (80 * x + 2 * k)) := by rw [bk1]; exact valC_eq hv uk.1 hq
    have hc : keyC mG mU x p q k = (if B.2.2.2.1 (stB B x + k) = 1 then valC G (B.2.2.1 (stB B x + k)) q - valC G (B.2.2.1 (stB B x + k)) p else valC G (B.2.2.1 (stB B x + k)) p - valC G (B.2.2.1 (stB B x + k)) q) := by
      rw [e1, e2, bk2]
      unfold keyC
      rcases uk.2 with h | h <;> rw [h]
      · rw [if_neg (by decide)]; omega
      · rw [if_pos rfl, if_pos rfl]; omega
    have hm01 : B.2.2.2.1 (stB B x + k) = 0 ∨ B.2.2.2.1 (stB B x + k) = 1 := by
      rw [bk2]
      rcases uk.2 with h | h <;> rw [h]
      · left; decide
      · right; decide
    have r1 : 0 ≤ valC G (B.2.2.1 (stB B x + k)) p ∧ valC G (B.2.2.1 (stB B x + k)) p ≤ 9999 := by rw [e1]; exact w1
    have r2 : 0 ≤ valC G (B.2.2.1 (stB B x + k)) q ∧ valC G (B.2.2.1 (stB B x + k)) q ≤ 9999 := by rw [e2]; exact w2
    refine aw_tree (I0_ok X _) [(true, 49)] [45] rfl ?_
    repeat' (first | refine And.intro ?_ ?_ | (refine aImp_e0 ?_; intro _) | (refine aImp_n0 ?_; intro _) | (refine aImp_i ?_; intro _))
    all_goals (try (first | omega | exact bI_01 _ | exact bI_lo _ | exact bI_hi _ | exact bI_hi' _ | exact trivial | exact Or.inl rfl | exact Or.inr rfl | (exfalso; omega)))
    refine aw_cf0 (c_valueOf (d + 0) sb ss T G L O R P C B D S N t (B.2.2.1 (stB B x + k)) p (by unfold inR; omega) hp) rfl ?_
    refine aw_tree (I0_ok X _) [(true, 49)] [45] rfl ?_
    repeat' (first | refine And.intro ?_ ?_ | (refine aImp_e0 ?_; intro _) | (refine aImp_n0 ?_; intro _) | (refine aImp_i ?_; intro _))
    all_goals (try (first | omega | exact bI_01 _ | exact bI_lo _ | exact bI_hi _ | exact bI_hi' _ | exact trivial | exact Or.inl rfl | exact Or.inr rfl | (exfalso; omega)))
    refine aw_cf0 (c_valueOf (d + 0) sb ss T G L O R P C B D S N t (B.2.2.1 (stB B x + k)) q (by unfold inR; omega) hq) rfl ?_
    refine aw_tree (I0_ok X _) [(true, 49)] [45] rfl ?_
    repeat' (first | refine And.intro ?_ ?_ | (refine aImp_e0 ?_; intro _) | (refine aImp_n0 ?_; intro _) | (refine aImp_i ?_; intro _))
    all_goals (try (first | omega | exact bI_01 _ | exact bI_lo _ | exact bI_hi _ | exact bI_hi' _ | exact trivial | exact Or.inl rfl | exact Or.inr rfl | (exfalso; omega)))
    · rw [show stB B x + k + 1 = stB B x + (k + 1) from by omega]
      refine ih (k + 1) _ _ rfl (by omega) (by omega) ?_
      rw [show bI (ahd (keyC mG mU x p q) (p < q) (m + 1) k) = bI (ahd (keyC mG mU x p q) (p < q) m (k + 1)) from bI_congr (by
        rw [ahd]
        have h0 : keyC mG mU x p q k = 0 := by rw [hc]; rcases hm01 with h | h <;> rw [h] <;> simp <;> omega
        constructor
        · intro h
          rcases h with h | h
          · exact absurd h0 h.1
          · exact h.2
        · intro h
          exact Or.inr ⟨h0, h⟩)] at hQ
      exact hQ
    all_goals (
      have hk1 : keyC mG mU x p q k ≠ 0 := by rw [hc]; rcases hm01 with h | h <;> rw [h] <;> simp <;> omega
      first
      | (rw [show bI (ahd (keyC mG mU x p q) (p < q) (m + 1) k) = 0 from bI_f (fun h => by
          rw [ahd] at h
          rcases h with h | h
          · have h2 := h.2
            rw [hc] at h2
            rcases hm01 with h3 | h3 <;> rw [h3] at h2 <;> simp at h2 <;> omega
          · exact hk1 h.1)] at hQ
         exact hQ)
      | (rw [show bI (ahd (keyC mG mU x p q) (p < q) (m + 1) k) = 1 from bI_t (by
          rw [ahd]
          refine Or.inl ⟨hk1, ?_⟩
          rw [hc]
          rcases hm01 with h3 | h3 <;> rw [h3] <;> simp <;> omega)] at hQ
         exact hQ))
set_option maxRecDepth 100000 in
theorem c_isAhead0 {X : AX} (d : Nat) (sb ss : Nat) (T : TyT) (G : TyG) (L : TyL) (O : TyO) (R : TyR) (P : TyP) (C : TyC) (B D : TyB) (S N : TyS) (t : AH) (mG : TyMG) (mU : TyMU) (p q : Int) (hp : 0 ≤ p ∧ p < 32) (hq : 0 ≤ q ∧ q < 32) (hG : kG mG) (hU : kU mU) (hv : rGv G mG) (hB : rB B mU) (hp1 : ¬ lnM mG mU p = -1) (hq1 : ¬ lnM mG mU q = -1) :
    AF X (d + 3) 0 0 45 [rf 31, iv p, iv q, rf 3] (CH sb ss T G L O R P C B D S N t) (some (iv (bI (ahM mG mU p q)))) (CH sb ss T G L O R P C B D S N t) := by
  have hG' := hG
  obtain ⟨g0, g1, g2, g3, g4, g5⟩ := hG'
  have hU' := hU
  obtain ⟨u0, u1, u2, u3⟩ := hU'
  have hB' := hB
  obtain ⟨b0, b1, b2, b3⟩ := hB'
  have hv' := hv
  obtain ⟨v0, v1, v2⟩ := hv'
  have a1 := g1 (6 * p)
  have a2 := g2 p hp.1 hp.2
  have a3 := g1 (6 * q)
  have a4 := g2 q hq.1 hq.2
  have b1p := u1 (mG.1 (6 * p)) (by omega) (by omega)
  have b2q := u1 (mG.1 (6 * q)) (by omega) (by omega)
  have vp := (v1 p hp.1 hp.2).1
  have vq := (v1 q hq.1 hq.2).1
  have c1 : B.1 (G.1 p) = lnM mG mU p := by rw [vp]; exact b1 _ (by omega) (by omega)
  have c2 : B.1 (G.1 q) = lnM mG mU q := by rw [vq]; exact b1 _ (by omega) (by omega)
  have c3 : lnM mG mU p = mU.1 (mG.1 (6 * p)) := rfl
  have c4 : lnM mG mU q = mU.1 (mG.1 (6 * q)) := rfl
  have bx := b2 (lnM mG mU p) (by omega) (by omega)
  have hq2 := u2 (lnM mG mU p) (by omega) (by omega)
  have hst : stB B (lnM mG mU p) = (if lnM mG mU p = 0 then 0 else B.2.1 (lnM mG mU p - 1)) := rfl
  refine aw_tree (I0_ok X _) [(true, 49)] [45] rfl ?_
  repeat' (first | refine And.intro ?_ ?_ | (refine aImp_e0 ?_; intro _) | (refine aImp_n0 ?_; intro _) | (refine aImp_i ?_; intro _))
  all_goals (try (first | omega | exact bI_01 _ | exact bI_lo _ | exact bI_hi _ | exact bI_hi' _ | exact trivial | exact Or.inl rfl | exact Or.inr rfl | (exfalso; omega)))
  all_goals first
    | rfl
    | (rw [bI_f (fun h => by have := (ahM_diff (by omega)).mp h; omega)])
    | (rw [bI_t ((ahM_diff (by omega)).mpr (by omega))])
    | (rw [c1, c2]
       have e : lnM mG mU p = lnM mG mU q := by omega
       rw [← e]
       have hz : stB B (lnM mG mU p) + 0 = 0 := by rw [hst, if_pos (by omega)]; rfl
       have goal := c_isAhead_loop0 (X := X) d sb ss T G L O R P C B D S N t mG mU p q (lnM mG mU p) (Q := fun r' h'' => r' = some (iv (bI (ahM mG mU p q))) ∧ h'' = CH sb ss T G L O R P C B D S N t) hp hq hG hU hv hB (by omega) (mU.2.1 (lnM mG mU p)).toNat 0 jk jk rfl (by omega) (by omega) ⟨by rw [bI_congr (ahM_same e)], rfl⟩
       rw [hz] at goal
       exact goal)
    | (rw [c1, c2]
       have e : lnM mG mU p = lnM mG mU q := by omega
       rw [← e]
       have hz : stB B (lnM mG mU p) + 0 = B.2.1 (lnM mG mU p - 1) := by rw [hst, if_neg (by omega), Int.add_zero]
       have goal := c_isAhead_loop0 (X := X) d sb ss T G L O R P C B D S N t mG mU p q (lnM mG mU p) (Q := fun r' h'' => r' = some (iv (bI (ahM mG mU p q))) ∧ h'' = CH sb ss T G L O R P C B D S N t) hp hq hG hU hv hB (by omega) (mU.2.1 (lnM mG mU p)).toNat 0 jk jk rfl (by omega) (by omega) ⟨by rw [bI_congr (ahM_same e)], rfl⟩
       rw [hz] at goal
       exact goal)
set_option maxRecDepth 100000 in
theorem c_isAhead_loop1 {X : AX} (d : Nat) (sb ss : Nat) (T : TyT) (G : TyG) (L : TyL) (O : TyO) (R : TyR) (P : TyP) (C : TyC) (B D : TyB) (S N : TyS) (t : AH) (mG : TyMG) (mU : TyMU) (p q x : Int) {Q : AQ} (hp : 0 ≤ p ∧ p < 32) (hq : 0 ≤ q ∧ q < 32) (hG : kG mG) (hU : kU mU) (hv : rGv G mG) (hB : rB D mU) (hx : 0 ≤ x ∧ x < mU.2.2.2) :
    ∀ (m : Nat) (k : Int) (v7 v8 : AV), aIsLong v7 = false → 0 ≤ k → k + m = mU.2.1 x → Q (some (iv (bI (ahd (keyC mG mU x p q) (p < q) m k)))) (CH sb ss T G L O R P C B D S N t) → AW X (d + 3) 0 0 45 45 [rf 36, iv p, iv q, rf 3, iv x, iv x, iv (stB D x + k), v7, v8] [] (CH sb ss T G L O R P C B D S N t) Q := by
  have hG' := hG
  obtain ⟨g0, g1, g2, g3, g4, g5⟩ := hG'
  obtain ⟨u0, u1, u2, u3⟩ := hU
  obtain ⟨b0, b1, b2, b3⟩ := hB
  have ux := u2 x hx.1 hx.2
  have bx := b2 x hx.1 hx.2
  intro m
  induction m with
  | zero =>
    intro k v7 v8 hl k0 hk hQ
    refine aw_tree (I0_ok X _) [(true, 49)] [45] rfl ?_
    repeat' (first | refine And.intro ?_ ?_ | (refine aImp_e0 ?_; intro _) | (refine aImp_n0 ?_; intro _) | (refine aImp_i ?_; intro _))
    all_goals (try (first | omega | exact bI_01 _ | exact bI_lo _ | exact bI_hi _ | exact bI_hi' _ | exact trivial | exact Or.inl rfl | exact Or.inr rfl | (exfalso; omega)))
    · rw [show bI (ahd (keyC mG mU x p q) (p < q) 0 k) = 0 from bI_f (fun h => by unfold ahd at h; omega)] at hQ
      exact hQ
    · rw [show bI (ahd (keyC mG mU x p q) (p < q) 0 k) = 1 from bI_t (by unfold ahd; omega)] at hQ
      exact hQ
  | succ m ih =>
    intro k v7 v8 hl k0 hk hQ
    have uk := u3 x k hx.1 hx.2 k0 (by omega)
    obtain ⟨bk1, bk2⟩ := b3 x k hx.1 hx.2 k0 (by omega)
    have w1 := g1 (6 * p + mU.2.2.1 (80 * x + 2 * k))
    have w2 := g1 (6 * q + mU.2.2.1 (80 * x + 2 * k))
    have e1 : valC G (D.2.2.1 (stB D x + k)) p = mG.1 (6 * p + mU.2.2.1 (80 * x + 2 * k)) := by rw [bk1]; exact valC_eq hv uk.1 hp
    have e2 : valC G (D.2.2.1 (stB D x + k)) q = mG.1 (6 * q + mU.2.2.1 (80 * x + 2 * k)) := by rw [bk1]; exact valC_eq hv uk.1 hq
    have hc : keyC mG mU x p q k = (if D.2.2.2.1 (stB D x + k) = 1 then valC G (D.2.2.1 (stB D x + k)) q - valC G (D.2.2.1 (stB D x + k)) p else valC G (D.2.2.1 (stB D x + k)) p - valC G (D.2.2.1 (stB D x + k)) q) := by
      rw [e1, e2, bk2]
      unfold keyC
      rcases uk.2 with h | h <;> rw [h]
      · rw [if_neg (by decide)]; omega
      · rw [if_pos rfl, if_pos rfl]; omega
    have hm01 : D.2.2.2.1 (stB D x + k) = 0 ∨ D.2.2.2.1 (stB D x + k) = 1 := by
      rw [bk2]
      rcases uk.2 with h | h <;> rw [h]
      · left; decide
      · right; decide
    have r1 : 0 ≤ valC G (D.2.2.1 (stB D x + k)) p ∧ valC G (D.2.2.1 (stB D x + k)) p ≤ 9999 := by rw [e1]; exact w1
    have r2 : 0 ≤ valC G (D.2.2.1 (stB D x + k)) q ∧ valC G (D.2.2.1 (stB D x + k)) q ≤ 9999 := by rw [e2]; exact w2
    refine aw_tree (I0_ok X _) [(true, 49)] [45] rfl ?_
    repeat' (first | refine And.intro ?_ ?_ | (refine aImp_e0 ?_; intro _) | (refine aImp_n0 ?_; intro _) | (refine aImp_i ?_; intro _))
    all_goals (try (first | omega | exact bI_01 _ | exact bI_lo _ | exact bI_hi _ | exact bI_hi' _ | exact trivial | exact Or.inl rfl | exact Or.inr rfl | (exfalso; omega)))
    refine aw_cf0 (c_valueOf (d + 0) sb ss T G L O R P C B D S N t (D.2.2.1 (stB D x + k)) p (by unfold inR; omega) hp) rfl ?_
    refine aw_tree (I0_ok X _) [(true, 49)] [45] rfl ?_
    repeat' (first | refine And.intro ?_ ?_ | (refine aImp_e0 ?_; intro _) | (refine aImp_n0 ?_; intro _) | (refine aImp_i ?_; intro _))
    all_goals (try (first | omega | exact bI_01 _ | exact bI_lo _ | exact bI_hi _ | exact bI_hi' _ | exact trivial | exact Or.inl rfl | exact Or.inr rfl | (exfalso; omega)))
    refine aw_cf0 (c_valueOf (d + 0) sb ss T G L O R P C B D S N t (D.2.2.1 (stB D x + k)) q (by unfold inR; omega) hq) rfl ?_
    refine aw_tree (I0_ok X _) [(true, 49)] [45] rfl ?_
    repeat' (first | refine And.intro ?_ ?_ | (refine aImp_e0 ?_; intro _) | (refine aImp_n0 ?_; intro _) | (refine aImp_i ?_; intro _))
    all_goals (try (first | omega | exact bI_01 _ | exact bI_lo _ | exact bI_hi _ | exact bI_hi' _ | exact trivial | exact Or.inl rfl | exact Or.inr rfl | (exfalso; omega)))
    · rw [show stB D x + k + 1 = stB D x + (k + 1) from by omega]
      refine ih (k + 1) _ _ rfl (by omega) (by omega) ?_
      rw [show bI (ahd (keyC mG mU x p q) (p < q) (m + 1) k) = bI (ahd (keyC mG mU x p q) (p < q) m (k + 1)) from bI_congr (by
        rw [ahd]
        have h0 : keyC mG mU x p q k = 0 := by rw [hc]; rcases hm01 with h | h <;> rw [h] <;> simp <;> omega
        constructor
        · intro h
          rcases h with h | h
          · exact absurd h0 h.1
          · exact h.2
        · intro h
          exact Or.inr ⟨h0, h⟩)] at hQ
      exact hQ
    all_goals (
      have hk1 : keyC mG mU x p q k ≠ 0 := by rw [hc]; rcases hm01 with h | h <;> rw [h] <;> simp <;> omega
      first
      | (rw [show bI (ahd (keyC mG mU x p q) (p < q) (m + 1) k) = 0 from bI_f (fun h => by
          rw [ahd] at h
          rcases h with h | h
          · have h2 := h.2
            rw [hc] at h2
            rcases hm01 with h3 | h3 <;> rw [h3] at h2 <;> simp at h2 <;> omega
          · exact hk1 h.1)] at hQ
         exact hQ)
      | (rw [show bI (ahd (keyC mG mU x p q) (p < q) (m + 1) k) = 1 from bI_t (by
          rw [ahd]
          refine Or.inl ⟨hk1, ?_⟩
          rw [hc]
          rcases hm01 with h3 | h3 <;> rw [h3] <;> simp <;> omega)] at hQ
         exact hQ))
set_option maxRecDepth 100000 in
theorem c_isAhead1 {X : AX} (d : Nat) (sb ss : Nat) (T : TyT) (G : TyG) (L : TyL) (O : TyO) (R : TyR) (P : TyP) (C : TyC) (B D : TyB) (S N : TyS) (t : AH) (mG : TyMG) (mU : TyMU) (p q : Int) (hp : 0 ≤ p ∧ p < 32) (hq : 0 ≤ q ∧ q < 32) (hG : kG mG) (hU : kU mU) (hv : rGv G mG) (hB : rB D mU) (hp1 : ¬ lnM mG mU p = -1) (hq1 : ¬ lnM mG mU q = -1) :
    AF X (d + 3) 0 0 45 [rf 36, iv p, iv q, rf 3] (CH sb ss T G L O R P C B D S N t) (some (iv (bI (ahM mG mU p q)))) (CH sb ss T G L O R P C B D S N t) := by
  have hG' := hG
  obtain ⟨g0, g1, g2, g3, g4, g5⟩ := hG'
  have hU' := hU
  obtain ⟨u0, u1, u2, u3⟩ := hU'
  have hB' := hB
  obtain ⟨b0, b1, b2, b3⟩ := hB'
  have hv' := hv
  obtain ⟨v0, v1, v2⟩ := hv'
  have a1 := g1 (6 * p)
  have a2 := g2 p hp.1 hp.2
  have a3 := g1 (6 * q)
  have a4 := g2 q hq.1 hq.2
  have b1p := u1 (mG.1 (6 * p)) (by omega) (by omega)
  have b2q := u1 (mG.1 (6 * q)) (by omega) (by omega)
  have vp := (v1 p hp.1 hp.2).1
  have vq := (v1 q hq.1 hq.2).1
  have c1 : D.1 (G.1 p) = lnM mG mU p := by rw [vp]; exact b1 _ (by omega) (by omega)
  have c2 : D.1 (G.1 q) = lnM mG mU q := by rw [vq]; exact b1 _ (by omega) (by omega)
  have c3 : lnM mG mU p = mU.1 (mG.1 (6 * p)) := rfl
  have c4 : lnM mG mU q = mU.1 (mG.1 (6 * q)) := rfl
  have bx := b2 (lnM mG mU p) (by omega) (by omega)
  have hq2 := u2 (lnM mG mU p) (by omega) (by omega)
  have hst : stB D (lnM mG mU p) = (if lnM mG mU p = 0 then 0 else D.2.1 (lnM mG mU p - 1)) := rfl
  refine aw_tree (I0_ok X _) [(true, 49)] [45] rfl ?_
  repeat' (first | refine And.intro ?_ ?_ | (refine aImp_e0 ?_; intro _) | (refine aImp_n0 ?_; intro _) | (refine aImp_i ?_; intro _))
  all_goals (try (first | omega | exact bI_01 _ | exact bI_lo _ | exact bI_hi _ | exact bI_hi' _ | exact trivial | exact Or.inl rfl | exact Or.inr rfl | (exfalso; omega)))
  all_goals first
    | rfl
    | (rw [bI_f (fun h => by have := (ahM_diff (by omega)).mp h; omega)])
    | (rw [bI_t ((ahM_diff (by omega)).mpr (by omega))])
    | (rw [c1, c2]
       have e : lnM mG mU p = lnM mG mU q := by omega
       rw [← e]
       have hz : stB D (lnM mG mU p) + 0 = 0 := by rw [hst, if_pos (by omega)]; rfl
       have goal := c_isAhead_loop1 (X := X) d sb ss T G L O R P C B D S N t mG mU p q (lnM mG mU p) (Q := fun r' h'' => r' = some (iv (bI (ahM mG mU p q))) ∧ h'' = CH sb ss T G L O R P C B D S N t) hp hq hG hU hv hB (by omega) (mU.2.1 (lnM mG mU p)).toNat 0 jk jk rfl (by omega) (by omega) ⟨by rw [bI_congr (ahM_same e)], rfl⟩
       rw [hz] at goal
       exact goal)
    | (rw [c1, c2]
       have e : lnM mG mU p = lnM mG mU q := by omega
       rw [← e]
       have hz : stB D (lnM mG mU p) + 0 = D.2.1 (lnM mG mU p - 1) := by rw [hst, if_neg (by omega), Int.add_zero]
       have goal := c_isAhead_loop1 (X := X) d sb ss T G L O R P C B D S N t mG mU p q (lnM mG mU p) (Q := fun r' h'' => r' = some (iv (bI (ahM mG mU p q))) ∧ h'' = CH sb ss T G L O R P C B D S N t) hp hq hG hU hv hB (by omega) (mU.2.1 (lnM mG mU p)).toNat 0 jk jk rfl (by omega) (by omega) ⟨by rw [bI_congr (ahM_same e)], rfl⟩
       rw [hz] at goal
       exact goal)

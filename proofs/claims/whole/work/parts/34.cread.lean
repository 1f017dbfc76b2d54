/-! ===== the office's reading of rules ===== -/
def kyE (b : TyB) (nk : FN) (x k : Int) : Prop := b.2.2.1 (stB b x + k) = nk (80 * x + 2 * k) + 10 ∧ b.2.2.2.1 (stB b x + k) = cif (nk (80 * x + 2 * k + 1) = -1) 1 0
def rD (b : TyB) (pb : PB) (m K : Int) : Prop := (b.2.2.2.2.2 = pb.2.2.2 ∧ b.2.2.2.2.1 = K) ∧ (∀ k, 0 ≤ k → k < 8 → b.1 k = pb.1 k) ∧ (∀ x, 0 ≤ x → x < pb.2.2.2 → 0 ≤ stB b x ∧ b.2.1 x = stB b x + pb.2.1 x ∧ b.2.1 x ≤ K) ∧ (∀ x k, 0 ≤ x → x < pb.2.2.2 → 0 ≤ k → k < pb.2.1 x → kyE b pb.2.2.1 x k) ∧ (K = stB b pb.2.2.2 + m ∧ 0 ≤ m ∧ 0 ≤ stB b pb.2.2.2) ∧ (∀ k, 0 ≤ k → k < m → kyE b pb.2.2.1 pb.2.2.2 k)
theorem rD_L {b : TyB} {pb : PB} {m K c : Int} {nm' : FN} (h : rD b pb m K) (hc : 0 ≤ c ∧ c ≤ 7) (hnm : ∀ x, x < pb.2.2.2 → nm' x = pb.2.1 x) : rD (aUp b.1 c b.2.2.2.2.2, b.2.1, b.2.2.1, b.2.2.2.1, b.2.2.2.2.1, b.2.2.2.2.2) (aUp pb.1 c pb.2.2.2, nm', pb.2.2.1, pb.2.2.2) m K := by
  obtain ⟨h1, h2, h3, h4, h5, h6⟩ := h
  refine ⟨h1, fun k k0 k1 => ?_, fun x x0 x1 => ?_, fun x k x0 x1 k0 k1 => ?_, h5, h6⟩
  · dsimp only
    by_cases e : k = c
    · rw [e, aUp_s, aUp_s]; exact h1.1
    · rw [aUp_n _ _ e, aUp_n _ _ e]; exact h2 k k0 k1
  · dsimp only at x1 ⊢
    rw [hnm x x1]
    exact h3 x x0 x1
  · dsimp only at x1 k1 ⊢
    rw [hnm x x1] at k1
    exact h4 x k x0 x1 k0 k1
theorem rD_C {b : TyB} {pb : PB} {K : Int} (h : rD b pb (pb.2.1 pb.2.2.2) K) (hx : 0 ≤ pb.2.2.2) : rD (b.1, aUp b.2.1 b.2.2.2.2.2 b.2.2.2.2.1, b.2.2.1, b.2.2.2.1, b.2.2.2.2.1, b.2.2.2.2.2 + 1) (pb.1, pb.2.1, pb.2.2.1, pb.2.2.2 + 1) 0 K := by
  obtain ⟨h1, h2, h3, h4, h5, h6⟩ := h
  have hst : ∀ x, 0 ≤ x → x ≤ pb.2.2.2 → stB (b.1, aUp b.2.1 b.2.2.2.2.2 b.2.2.2.2.1, b.2.2.1, b.2.2.2.1, b.2.2.2.2.1, b.2.2.2.2.2 + 1) x = stB b x := by
    intro x x0 x1
    unfold stB
    by_cases e : x = 0
    · rw [if_pos e, if_pos e]
    · rw [if_neg e, if_neg e]
      exact aUp_n _ _ (by omega)
  have hst2 : stB (b.1, aUp b.2.1 b.2.2.2.2.2 b.2.2.2.2.1, b.2.2.1, b.2.2.2.1, b.2.2.2.2.1, b.2.2.2.2.2 + 1) (pb.2.2.2 + 1) = K := by
    unfold stB
    rw [if_neg (by omega)]
    dsimp only
    rw [show pb.2.2.2 + 1 - 1 = b.2.2.2.2.2 from by omega, aUp_s]
    exact h1.2
  refine ⟨⟨by dsimp only; omega, h1.2⟩, h2, fun x x0 x1 => ?_, fun x k x0 x1 k0 k1 => ?_, ⟨by rw [hst2]; omega, by omega, by rw [hst2]; omega⟩, fun k k0 k1 => by omega⟩
  · dsimp only at x1
    rw [hst x x0 (by omega)]
    dsimp only
    by_cases e : x = pb.2.2.2
    · rw [e]
      rw [show pb.2.2.2 = b.2.2.2.2.2 from by omega, aUp_s]
      rw [show b.2.2.2.2.2 = pb.2.2.2 from by omega]
      omega
    · rw [aUp_n _ _ (by omega)]
      exact h3 x x0 (by omega)
  · dsimp only at x1 k1
    unfold kyE
    rw [hst x x0 (by omega)]
    by_cases e : x = pb.2.2.2
    · rw [e] at k1 ⊢
      exact h6 k k0 k1
    · exact h4 x k x0 (by omega) k0 k1
theorem rD_K {b : TyB} {pb : PB} {K c sg im : Int} (h : rD b pb (pb.2.1 pb.2.2.2) K) (hx : 0 ≤ pb.2.2.2) (hK : K ≤ 24) (him : im = cif (sg = -1) 1 0) (hnm : ∀ x, 0 ≤ x → x < pb.2.2.2 + 1 → 0 ≤ pb.2.1 x ∧ pb.2.1 x ≤ K) :
    rD (b.1, b.2.1, aUp b.2.2.1 b.2.2.2.2.1 c, aUp b.2.2.2.1 b.2.2.2.2.1 im, b.2.2.2.2.1 + 1, b.2.2.2.2.2) (pb.1, aUp pb.2.1 pb.2.2.2 (pb.2.1 pb.2.2.2 + 1), aUp (aUp pb.2.2.1 (80 * pb.2.2.2 + 2 * pb.2.1 pb.2.2.2) (c - 10)) (80 * pb.2.2.2 + 2 * pb.2.1 pb.2.2.2 + 1) sg, pb.2.2.2) (aUp pb.2.1 pb.2.2.2 (pb.2.1 pb.2.2.2 + 1) pb.2.2.2) (K + 1) := by
  obtain ⟨h1, h2, h3, h4, h5, h6⟩ := h
  have ho := hnm pb.2.2.2 hx (by omega)
  refine ⟨⟨h1.1, by dsimp only; omega⟩, h2, fun x x0 x1 => ?_, fun x k x0 x1 k0 k1 => ?_, ?_, fun k k0 k1 => ?_⟩
  · dsimp only at x1 ⊢
    rw [aUp_n _ _ (by omega)]
    have := h3 x x0 x1
    exact ⟨this.1, this.2.1, by have := this.2.2; omega⟩
  · dsimp only at x1 k1 ⊢
    rw [aUp_n _ _ (by omega)] at k1
    have hh := h3 x x0 x1
    have hn := hnm x x0 (by omega)
    have hk := h4 x k x0 x1 k0 k1
    unfold kyE at hk ⊢
    have es : stB (b.1, b.2.1, aUp b.2.2.1 b.2.2.2.2.1 c, aUp b.2.2.2.1 b.2.2.2.2.1 im, b.2.2.2.2.1 + 1, b.2.2.2.2.2) x = stB b x := rfl
    rw [es]
    dsimp only
    rw [aUp_n _ _ (by omega), aUp_n _ _ (by omega), aUp_n _ _ (by omega), aUp_n _ _ (by omega), aUp_n _ _ (by omega), aUp_n _ _ (by omega)]
    exact hk
  · rw [aUp_s]
    have es : stB (b.1, b.2.1, aUp b.2.2.1 b.2.2.2.2.1 c, aUp b.2.2.2.1 b.2.2.2.2.1 im, b.2.2.2.2.1 + 1, b.2.2.2.2.2) pb.2.2.2 = stB b pb.2.2.2 := rfl
    dsimp only
    rw [es]
    omega
  · rw [aUp_s] at k1
    unfold kyE
    have es : stB (b.1, b.2.1, aUp b.2.2.1 b.2.2.2.2.1 c, aUp b.2.2.2.1 b.2.2.2.2.1 im, b.2.2.2.2.1 + 1, b.2.2.2.2.2) pb.2.2.2 = stB b pb.2.2.2 := rfl
    dsimp only
    rw [es]
    by_cases e : k = pb.2.1 pb.2.2.2
    · have e2 : stB b pb.2.2.2 + k = b.2.2.2.2.1 := by omega
      rw [e2, aUp_s, aUp_s, e, aUp_n _ _ (by omega), aUp_s, aUp_s]
      exact ⟨by omega, him⟩
    · have hk := h6 k k0 (by omega)
      unfold kyE at hk
      rw [aUp_n _ _ (by omega), aUp_n _ _ (by omega), aUp_n _ _ (by omega), aUp_n _ _ (by omega), aUp_n _ _ (by omega), aUp_n _ _ (by omega)]
      exact hk
theorem c_takeLetter0 {X : AX} (d : Nat) (sb ss : Nat) (T : TyT) (G : TyG) (L : TyL) (O : TyO) (fk fp due nx0 q im : Int) (P : TyP) (C : TyC) (B D : TyB) (S N : TyS) (t : AH) (c : Int) {Q : AQ} (hc : inR c) (hl : ∀ k, 0 ≤ k → k < 8 → -1 ≤ B.1 k ∧ B.1 k ≤ 8)
    (h1 : ¬ (0 ≤ c ∧ c ≤ 7) → Q (some (iv 1)) (CH sb ss T G L O (fk, fp, due, nx0, q, im) P C B D S N t))
    (h2 : 0 ≤ c ∧ c ≤ 7 → ¬ B.1 c = -1 → Q (some (iv 2)) (CH sb ss T G L O (fk, fp, due, nx0, q, im) P C B D S N t))
    (h3 : 0 ≤ c ∧ c ≤ 7 → B.1 c = -1 → Q (some (iv 0)) (CH sb ss T G L O (fk, fp, 2, nx0, q, im) P C (aUp B.1 c B.2.2.2.2.2, B.2.1, B.2.2.1, B.2.2.2.1, B.2.2.2.2.1, B.2.2.2.2.2) D S N t)) :
    AW X (d + 3) 0 0 54 0 (aEntry 54 [rf 16, iv c, rf 31]) [] (CH sb ss T G L O (fk, fp, due, nx0, q, im) P C B D S N t) Q := by
  unfold inR at hc
  refine aw_tree (I0_ok X _) [(true, 49)] [] rfl ?_
  dsimp only
  repeat' (first | refine And.intro ?_ ?_ | (refine aImp_e0 ?_; intro _) | (refine aImp_n0 ?_; intro _) | (refine aImp_i ?_; intro _))
  all_goals (try (first | omega | exact bI_01 _ | exact bI_lo _ | exact bI_hi _ | exact bI_hi' _ | exact trivial | exact Or.inl rfl | exact Or.inr rfl | (exfalso; omega)))
  · next hy =>
    have hl' := hl c hy.1 (by omega)
    refine aw_cf0 (c_hasKind0 (d + 0) sb ss T G L O (fk, fp, due, nx0, q, im) P C B D S N t c (by omega) (by unfold inR; omega)) rfl ?_
    refine aw_tree (I0_ok X _) [(true, 49)] [] rfl ?_
    dsimp only
    repeat' (first | refine And.intro ?_ ?_ | (refine aImp_e0 ?_; intro _) | (refine aImp_n0 ?_; intro _) | (refine aImp_i ?_; intro _))
    all_goals (try (first | omega | exact bI_01 _ | exact bI_lo _ | exact bI_hi _ | exact bI_hi' _ | exact trivial | exact Or.inl rfl | exact Or.inr rfl | (exfalso; omega)))
    · next hz =>
      have haf : AF X (d + 2) 0 0 42 [rf 31, iv c] (CH sb ss T G L O (fk, fp, due, nx0, q, im) P C B D S N t) none (CH sb ss T G L O (fk, fp, due, nx0, q, im) P C (aUp B.1 c B.2.2.2.2.2, B.2.1, B.2.2.1, B.2.2.2.1, B.2.2.2.2.1, B.2.2.2.2.2) D S N t) := by
        refine aw_tree (I0_ok X _) [(true, 49)] [] rfl ?_
        dsimp only
        repeat' (first | refine And.intro ?_ ?_ | (refine aImp_e0 ?_; intro _) | (refine aImp_n0 ?_; intro _) | (refine aImp_i ?_; intro _))
        all_goals (try (first | omega | exact bI_01 _ | exact bI_lo _ | exact bI_hi _ | exact bI_hi' _ | exact trivial | exact Or.inl rfl | exact Or.inr rfl | (exfalso; omega)))
        all_goals rfl
      refine aw_cf0 haf rfl ?_
      refine aw_tree (I0_ok X _) [(true, 49)] [] rfl ?_
      have hgo : AF X (d + 2) 0 0 57 [rf 16, iv 2] (CH sb ss T G L O (fk, fp, due, nx0, q, im) P C (aUp B.1 c B.2.2.2.2.2, B.2.1, B.2.2.1, B.2.2.2.1, B.2.2.2.2.1, B.2.2.2.2.2) D S N t) (some (iv 0)) (CH sb ss T G L O (fk, fp, 2, nx0, q, im) P C (aUp B.1 c B.2.2.2.2.2, B.2.1, B.2.2.1, B.2.2.2.1, B.2.2.2.2.1, B.2.2.2.2.2) D S N t) := by
        refine aw_tree (I0_ok X _) [(true, 49)] [] rfl ?_
        exact ⟨rfl, rfl⟩
      refine aw_cf0 hgo rfl ?_
      refine aw_tree (I0_ok X _) [(true, 49)] [] rfl ?_
      exact h3 hy (by omega)
    · exact h2 hy (by assumption)
  · exact h1 (by assumption)
theorem c_takeLetter1 {X : AX} (d : Nat) (sb ss : Nat) (T : TyT) (G : TyG) (L : TyL) (O : TyO) (fk fp due nx0 q im : Int) (P : TyP) (C : TyC) (B D : TyB) (S N : TyS) (t : AH) (c : Int) {Q : AQ} (hc : inR c) (hl : ∀ k, 0 ≤ k → k < 8 → -1 ≤ D.1 k ∧ D.1 k ≤ 8)
    (h1 : ¬ (0 ≤ c ∧ c ≤ 7) → Q (some (iv 1)) (CH sb ss T G L O (fk, fp, due, nx0, q, im) P C B D S N t))
    (h2 : 0 ≤ c ∧ c ≤ 7 → ¬ D.1 c = -1 → Q (some (iv 2)) (CH sb ss T G L O (fk, fp, due, nx0, q, im) P C B D S N t))
    (h3 : 0 ≤ c ∧ c ≤ 7 → D.1 c = -1 → Q (some (iv 0)) (CH sb ss T G L O (fk, fp, 2, nx0, q, im) P C B (aUp D.1 c D.2.2.2.2.2, D.2.1, D.2.2.1, D.2.2.2.1, D.2.2.2.2.1, D.2.2.2.2.2) S N t)) :
    AW X (d + 3) 0 0 54 0 (aEntry 54 [rf 16, iv c, rf 36]) [] (CH sb ss T G L O (fk, fp, due, nx0, q, im) P C B D S N t) Q := by
  unfold inR at hc
  refine aw_tree (I0_ok X _) [(true, 49)] [] rfl ?_
  dsimp only
  repeat' (first | refine And.intro ?_ ?_ | (refine aImp_e0 ?_; intro _) | (refine aImp_n0 ?_; intro _) | (refine aImp_i ?_; intro _))
  all_goals (try (first | omega | exact bI_01 _ | exact bI_lo _ | exact bI_hi _ | exact bI_hi' _ | exact trivial | exact Or.inl rfl | exact Or.inr rfl | (exfalso; omega)))
  · next hy =>
    have hl' := hl c hy.1 (by omega)
    refine aw_cf0 (c_hasKind1 (d + 0) sb ss T G L O (fk, fp, due, nx0, q, im) P C B D S N t c (by omega) (by unfold inR; omega)) rfl ?_
    refine aw_tree (I0_ok X _) [(true, 49)] [] rfl ?_
    dsimp only
    repeat' (first | refine And.intro ?_ ?_ | (refine aImp_e0 ?_; intro _) | (refine aImp_n0 ?_; intro _) | (refine aImp_i ?_; intro _))
    all_goals (try (first | omega | exact bI_01 _ | exact bI_lo _ | exact bI_hi _ | exact bI_hi' _ | exact trivial | exact Or.inl rfl | exact Or.inr rfl | (exfalso; omega)))
    · next hz =>
      have haf : AF X (d + 2) 0 0 42 [rf 36, iv c] (CH sb ss T G L O (fk, fp, due, nx0, q, im) P C B D S N t) none (CH sb ss T G L O (fk, fp, due, nx0, q, im) P C B (aUp D.1 c D.2.2.2.2.2, D.2.1, D.2.2.1, D.2.2.2.1, D.2.2.2.2.1, D.2.2.2.2.2) S N t) := by
        refine aw_tree (I0_ok X _) [(true, 49)] [] rfl ?_
        dsimp only
        repeat' (first | refine And.intro ?_ ?_ | (refine aImp_e0 ?_; intro _) | (refine aImp_n0 ?_; intro _) | (refine aImp_i ?_; intro _))
        all_goals (try (first | omega | exact bI_01 _ | exact bI_lo _ | exact bI_hi _ | exact bI_hi' _ | exact trivial | exact Or.inl rfl | exact Or.inr rfl | (exfalso; omega)))
        all_goals rfl
      refine aw_cf0 haf rfl ?_
      refine aw_tree (I0_ok X _) [(true, 49)] [] rfl ?_
      have hgo : AF X (d + 2) 0 0 57 [rf 16, iv 2] (CH sb ss T G L O (fk, fp, due, nx0, q, im) P C B (aUp D.1 c D.2.2.2.2.2, D.2.1, D.2.2.1, D.2.2.2.1, D.2.2.2.2.1, D.2.2.2.2.2) S N t) (some (iv 0)) (CH sb ss T G L O (fk, fp, 2, nx0, q, im) P C B (aUp D.1 c D.2.2.2.2.2, D.2.1, D.2.2.1, D.2.2.2.1, D.2.2.2.2.1, D.2.2.2.2.2) S N t) := by
        refine aw_tree (I0_ok X _) [(true, 49)] [] rfl ?_
        exact ⟨rfl, rfl⟩
      refine aw_cf0 hgo rfl ?_
      refine aw_tree (I0_ok X _) [(true, 49)] [] rfl ?_
      exact h3 hy (by omega)
    · exact h2 hy (by assumption)
  · exact h1 (by assumption)
theorem c_goOn {X : AX} (d : Nat) (sb ss : Nat) (T : TyT) (G : TyG) (L : TyL) (O : TyO) (fk fp due nx0 q im : Int) (P : TyP) (C : TyC) (B D : TyB) (S N : TyS) (t : AH) (v : Int) : AF X (d + 2) 0 0 57 [rf 16, iv v] (CH sb ss T G L O (fk, fp, due, nx0, q, im) P C B D S N t) (some (iv 0)) (CH sb ss T G L O (fk, fp, v, nx0, q, im) P C B D S N t) := by
  refine aw_tree (I0_ok X _) [(true, 49)] [] rfl ?_
  exact ⟨rfl, rfl⟩
theorem c_takeField0 {X : AX} (d : Nat) (sb ss : Nat) (T : TyT) (G : TyG) (L : TyL) (O : TyO) (fk fp due nx0 q im : Int) (P : TyP) (C : TyC) (B D : TyB) (S N : TyS) (t : AH) (c : Int) {Q : AQ} (hc : inR c) (him : im = 0 ∨ im = 1) (hk : 0 ≤ B.2.2.2.2.1 ∧ B.2.2.2.2.1 ≤ 24)
    (h1 : ¬ (11 ≤ c ∧ c ≤ 15) → Q (some (iv 1)) (CH sb ss T G L O (fk, fp, due, nx0, q, im) P C B D S N t))
    (h3 : 11 ≤ c ∧ c ≤ 15 → Q (some (iv 0)) (CH sb ss T G L O (fk, fp, 5, nx0, q, im) P C (B.1, B.2.1, aUp B.2.2.1 B.2.2.2.2.1 c, aUp B.2.2.2.1 B.2.2.2.2.1 im, B.2.2.2.2.1 + 1, B.2.2.2.2.2) D S N t)) :
    AW X (d + 3) 0 0 55 0 (aEntry 55 [rf 16, iv c, rf 31]) [] (CH sb ss T G L O (fk, fp, due, nx0, q, im) P C B D S N t) Q := by
  unfold inR at hc
  refine aw_tree (I0_ok X _) [(true, 49)] [] rfl ?_
  dsimp only
  repeat' (first | refine And.intro ?_ ?_ | (refine aImp_e0 ?_; intro _) | (refine aImp_n0 ?_; intro _) | (refine aImp_i ?_; intro _))
  all_goals (try (first | omega | exact bI_01 _ | exact bI_lo _ | exact bI_hi _ | exact bI_hi' _ | exact trivial | exact Or.inl rfl | exact Or.inr rfl | (exfalso; omega)))
  · next hy =>
    have haf : AF X (d + 2) 0 0 43 [rf 31, iv c, iv im] (CH sb ss T G L O (fk, fp, due, nx0, q, im) P C B D S N t) none (CH sb ss T G L O (fk, fp, due, nx0, q, im) P C (B.1, B.2.1, aUp B.2.2.1 B.2.2.2.2.1 c, aUp B.2.2.2.1 B.2.2.2.2.1 im, B.2.2.2.2.1 + 1, B.2.2.2.2.2) D S N t) := by
      refine aw_tree (I0_ok X _) [(true, 49)] [] rfl ?_
      dsimp only
      repeat' (first | refine And.intro ?_ ?_ | (refine aImp_e0 ?_; intro _) | (refine aImp_n0 ?_; intro _) | (refine aImp_i ?_; intro _))
      all_goals (try (first | omega | exact bI_01 _ | exact bI_lo _ | exact bI_hi _ | exact bI_hi' _ | exact trivial | exact Or.inl rfl | exact Or.inr rfl | (exfalso; omega)))
      all_goals rfl
    refine aw_cf0 haf rfl ?_
    refine aw_tree (I0_ok X _) [(true, 49)] [] rfl ?_
    refine aw_cf0 (c_goOn (d + 0) sb ss T G L O fk fp due nx0 q im P C (B.1, B.2.1, aUp B.2.2.1 B.2.2.2.2.1 c, aUp B.2.2.2.1 B.2.2.2.2.1 im, B.2.2.2.2.1 + 1, B.2.2.2.2.2) D S N t 5) rfl ?_
    refine aw_tree (I0_ok X _) [(true, 49)] [] rfl ?_
    exact h3 hy
  · exact h1 (by assumption)
theorem c_takeSep0 {X : AX} (d : Nat) (sb ss : Nat) (T : TyT) (G : TyG) (L : TyL) (O : TyO) (fk fp due nx0 q im : Int) (P : TyP) (C : TyC) (B D : TyB) (S N : TyS) (t : AH) (c v : Int) {Q : AQ} (hc : inR c) (hk : 0 ≤ B.2.2.2.2.2 ∧ B.2.2.2.2.2 ≤ 7)
    (h1 : ¬ c = 16 → ¬ c = 17 → Q (some (iv 1)) (CH sb ss T G L O (fk, fp, due, nx0, q, im) P C B D S N t))
    (h2 : c = 16 → Q (some (iv 0)) (CH sb ss T G L O (fk, fp, v, nx0, q, im) P C B D S N t))
    (h3 : c = 17 → Q (some (iv 0)) (CH sb ss T G L O (fk, fp, 0, nx0, q, im) P C (B.1, aUp B.2.1 B.2.2.2.2.2 B.2.2.2.2.1, B.2.2.1, B.2.2.2.1, B.2.2.2.2.1, B.2.2.2.2.2 + 1) D S N t)) :
    AW X (d + 3) 0 0 56 0 (aEntry 56 [rf 16, iv c, iv v, rf 31]) [] (CH sb ss T G L O (fk, fp, due, nx0, q, im) P C B D S N t) Q := by
  unfold inR at hc
  refine aw_tree (I0_ok X _) [(true, 49)] [] rfl ?_
  dsimp only
  repeat' (first | refine And.intro ?_ ?_ | (refine aImp_e0 ?_; intro _) | (refine aImp_n0 ?_; intro _) | (refine aImp_i ?_; intro _))
  all_goals (try (first | omega | exact bI_01 _ | exact bI_lo _ | exact bI_hi _ | exact bI_hi' _ | exact trivial | exact Or.inl rfl | exact Or.inr rfl | (exfalso; omega)))
  · have haf : AF X (d + 2) 0 0 44 [rf 31] (CH sb ss T G L O (fk, fp, due, nx0, q, im) P C B D S N t) none (CH sb ss T G L O (fk, fp, due, nx0, q, im) P C (B.1, aUp B.2.1 B.2.2.2.2.2 B.2.2.2.2.1, B.2.2.1, B.2.2.2.1, B.2.2.2.2.1, B.2.2.2.2.2 + 1) D S N t) := by
      refine aw_tree (I0_ok X _) [(true, 49)] [] rfl ?_
      dsimp only
      repeat' (first | refine And.intro ?_ ?_ | (refine aImp_e0 ?_; intro _) | (refine aImp_n0 ?_; intro _) | (refine aImp_i ?_; intro _))
      all_goals (try (first | omega | exact bI_01 _ | exact bI_lo _ | exact bI_hi _ | exact bI_hi' _ | exact trivial | exact Or.inl rfl | exact Or.inr rfl | (exfalso; omega)))
      all_goals rfl
    refine aw_cf0 haf rfl ?_
    refine aw_tree (I0_ok X _) [(true, 49)] [] rfl ?_
    refine aw_cf0 (c_goOn (d + 0) sb ss T G L O fk fp due nx0 q im P C (B.1, aUp B.2.1 B.2.2.2.2.2 B.2.2.2.2.1, B.2.2.1, B.2.2.2.1, B.2.2.2.2.1, B.2.2.2.2.2 + 1) D S N t 0) rfl ?_
    refine aw_tree (I0_ok X _) [(true, 49)] [] rfl ?_
    exact h3 (by assumption)
  · exact h1 (by assumption) (by assumption)
  · refine aw_cf0 (c_goOn (d + 0) sb ss T G L O fk fp due nx0 q im P C B D S N t v) rfl ?_
    refine aw_tree (I0_ok X _) [(true, 49)] [] rfl ?_
    exact h2 (by omega)
theorem c_takeField1 {X : AX} (d : Nat) (sb ss : Nat) (T : TyT) (G : TyG) (L : TyL) (O : TyO) (fk fp due nx0 q im : Int) (P : TyP) (C : TyC) (B D : TyB) (S N : TyS) (t : AH) (c : Int) {Q : AQ} (hc : inR c) (him : im = 0 ∨ im = 1) (hk : 0 ≤ D.2.2.2.2.1 ∧ D.2.2.2.2.1 ≤ 24)
    (h1 : ¬ (11 ≤ c ∧ c ≤ 15) → Q (some (iv 1)) (CH sb ss T G L O (fk, fp, due, nx0, q, im) P C B D S N t))
    (h3 : 11 ≤ c ∧ c ≤ 15 → Q (some (iv 0)) (CH sb ss T G L O (fk, fp, 5, nx0, q, im) P C B (D.1, D.2.1, aUp D.2.2.1 D.2.2.2.2.1 c, aUp D.2.2.2.1 D.2.2.2.2.1 im, D.2.2.2.2.1 + 1, D.2.2.2.2.2) S N t)) :
    AW X (d + 3) 0 0 55 0 (aEntry 55 [rf 16, iv c, rf 36]) [] (CH sb ss T G L O (fk, fp, due, nx0, q, im) P C B D S N t) Q := by
  unfold inR at hc
  refine aw_tree (I0_ok X _) [(true, 49)] [] rfl ?_
  dsimp only
  repeat' (first | refine And.intro ?_ ?_ | (refine aImp_e0 ?_; intro _) | (refine aImp_n0 ?_; intro _) | (refine aImp_i ?_; intro _))
  all_goals (try (first | omega | exact bI_01 _ | exact bI_lo _ | exact bI_hi _ | exact bI_hi' _ | exact trivial | exact Or.inl rfl | exact Or.inr rfl | (exfalso; omega)))
  · next hy =>
    have haf : AF X (d + 2) 0 0 43 [rf 36, iv c, iv im] (CH sb ss T G L O (fk, fp, due, nx0, q, im) P C B D S N t) none (CH sb ss T G L O (fk, fp, due, nx0, q, im) P C B (D.1, D.2.1, aUp D.2.2.1 D.2.2.2.2.1 c, aUp D.2.2.2.1 D.2.2.2.2.1 im, D.2.2.2.2.1 + 1, D.2.2.2.2.2) S N t) := by
      refine aw_tree (I0_ok X _) [(true, 49)] [] rfl ?_
      dsimp only
      repeat' (first | refine And.intro ?_ ?_ | (refine aImp_e0 ?_; intro _) | (refine aImp_n0 ?_; intro _) | (refine aImp_i ?_; intro _))
      all_goals (try (first | omega | exact bI_01 _ | exact bI_lo _ | exact bI_hi _ | exact bI_hi' _ | exact trivial | exact Or.inl rfl | exact Or.inr rfl | (exfalso; omega)))
      all_goals rfl
    refine aw_cf0 haf rfl ?_
    refine aw_tree (I0_ok X _) [(true, 49)] [] rfl ?_
    refine aw_cf0 (c_goOn (d + 0) sb ss T G L O fk fp due nx0 q im P C B (D.1, D.2.1, aUp D.2.2.1 D.2.2.2.2.1 c, aUp D.2.2.2.1 D.2.2.2.2.1 im, D.2.2.2.2.1 + 1, D.2.2.2.2.2) S N t 5) rfl ?_
    refine aw_tree (I0_ok X _) [(true, 49)] [] rfl ?_
    exact h3 hy
  · exact h1 (by assumption)
theorem c_takeSep1 {X : AX} (d : Nat) (sb ss : Nat) (T : TyT) (G : TyG) (L : TyL) (O : TyO) (fk fp due nx0 q im : Int) (P : TyP) (C : TyC) (B D : TyB) (S N : TyS) (t : AH) (c v : Int) {Q : AQ} (hc : inR c) (hk : 0 ≤ D.2.2.2.2.2 ∧ D.2.2.2.2.2 ≤ 7)
    (h1 : ¬ c = 16 → ¬ c = 17 → Q (some (iv 1)) (CH sb ss T G L O (fk, fp, due, nx0, q, im) P C B D S N t))
    (h2 : c = 16 → Q (some (iv 0)) (CH sb ss T G L O (fk, fp, v, nx0, q, im) P C B D S N t))
    (h3 : c = 17 → Q (some (iv 0)) (CH sb ss T G L O (fk, fp, 0, nx0, q, im) P C B (D.1, aUp D.2.1 D.2.2.2.2.2 D.2.2.2.2.1, D.2.2.1, D.2.2.2.1, D.2.2.2.2.1, D.2.2.2.2.2 + 1) S N t)) :
    AW X (d + 3) 0 0 56 0 (aEntry 56 [rf 16, iv c, iv v, rf 36]) [] (CH sb ss T G L O (fk, fp, due, nx0, q, im) P C B D S N t) Q := by
  unfold inR at hc
  refine aw_tree (I0_ok X _) [(true, 49)] [] rfl ?_
  dsimp only
  repeat' (first | refine And.intro ?_ ?_ | (refine aImp_e0 ?_; intro _) | (refine aImp_n0 ?_; intro _) | (refine aImp_i ?_; intro _))
  all_goals (try (first | omega | exact bI_01 _ | exact bI_lo _ | exact bI_hi _ | exact bI_hi' _ | exact trivial | exact Or.inl rfl | exact Or.inr rfl | (exfalso; omega)))
  · have haf : AF X (d + 2) 0 0 44 [rf 36] (CH sb ss T G L O (fk, fp, due, nx0, q, im) P C B D S N t) none (CH sb ss T G L O (fk, fp, due, nx0, q, im) P C B (D.1, aUp D.2.1 D.2.2.2.2.2 D.2.2.2.2.1, D.2.2.1, D.2.2.2.1, D.2.2.2.2.1, D.2.2.2.2.2 + 1) S N t) := by
      refine aw_tree (I0_ok X _) [(true, 49)] [] rfl ?_
      dsimp only
      repeat' (first | refine And.intro ?_ ?_ | (refine aImp_e0 ?_; intro _) | (refine aImp_n0 ?_; intro _) | (refine aImp_i ?_; intro _))
      all_goals (try (first | omega | exact bI_01 _ | exact bI_lo _ | exact bI_hi _ | exact bI_hi' _ | exact trivial | exact Or.inl rfl | exact Or.inr rfl | (exfalso; omega)))
      all_goals rfl
    refine aw_cf0 haf rfl ?_
    refine aw_tree (I0_ok X _) [(true, 49)] [] rfl ?_
    refine aw_cf0 (c_goOn (d + 0) sb ss T G L O fk fp due nx0 q im P C B (D.1, aUp D.2.1 D.2.2.2.2.2 D.2.2.2.2.1, D.2.2.1, D.2.2.2.1, D.2.2.2.2.1, D.2.2.2.2.2 + 1) S N t 0) rfl ?_
    refine aw_tree (I0_ok X _) [(true, 49)] [] rfl ?_
    exact h3 (by assumption)
  · exact h1 (by assumption) (by assumption)
  · refine aw_cf0 (c_goOn (d + 0) sb ss T G L O fk fp due nx0 q im P C B D S N t v) rfl ?_
    refine aw_tree (I0_ok X _) [(true, 49)] [] rfl ?_
    exact h2 (by omega)

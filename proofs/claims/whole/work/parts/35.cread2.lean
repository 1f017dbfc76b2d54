theorem aw_ist {X : AX} {mi j d kc ks o pc len n : Nat} {aux : List Nat} {ls rest : List AV} {h : AH} {Q : AQ} {r : Nat} {f : FN} {i v : Int} (he : (mE mi)[j]? = some (o, pc, .iastore, len, aux)) (hh : h[r]? = some (.inl (0, n, f))) (hb : aInB i n) (k : AW X d kc ks mi (j + 1) ls rest (h.set r (.inl (0, n, aUp f i v))) Q) : AW X d kc ks mi j ls (.inl v :: .inl i :: rf r :: rest) h Q := by
  refine AWc.step ⟨_, he, Or.inl ⟨0, some (aInB i n), none, ls, rest, h.set r (.inl (0, n, aUp f i v)), kc, ks, ?_, hb, k⟩⟩
  show sISt ls (.inl v :: .inl i :: rf r :: rest) h kc ks = _
  unfold sISt
  dsimp only
  rw [hh]
  rfl
theorem aw_len {X : AX} {mi j d kc ks o pc len n t : Nat} {aux : List Nat} {ls rest : List AV} {h : AH} {Q : AQ} {r : Nat} {f : FN} (he : (mE mi)[j]? = some (o, pc, .arraylength, len, aux)) (hh : h[r]? = some (.inl (t, n, f))) (k : AW X d kc ks mi (j + 1) ls (.inl n :: rest) h Q) : AW X d kc ks mi j ls (rf r :: rest) h Q := by
  refine AWc.step ⟨_, he, Or.inl ⟨0, none, none, ls, .inl n :: rest, h, kc, ks, ?_, trivial, k⟩⟩
  show sLen X ls (rf r :: rest) h kc ks = _
  unfold sLen
  dsimp only
  rw [hh]
theorem c_fill_loop {X : AX} (d : Nat) (r n : Nat) (v : Int) (f : FN) {Q : AQ} (h : AH) (hn : n ≤ 100000) (hr : r < h.length) (hQ : Q none (h.set r (ia n (fil f v n)))) :
    ∀ (m k : Nat), k + m = n → AW X (d + 2) 0 0 154 5 [rf r, iv v, iv k, iv n] [] (h.set r (ia n (fil f v k))) Q := by
  intro m
  induction m with
  | zero =>
    intro k hk
    have e : k = n := by omega
    subst e
    refine aw_tree (I0_ok X _) [] [5, 11] rfl ?_
    repeat' (first | refine And.intro ?_ ?_ | (refine aImp_e0 ?_; intro _) | (refine aImp_n0 ?_; intro _) | (refine aImp_i ?_; intro _))
    all_goals first | exact hQ | omega
  | succ m ih =>
    intro k hk
    refine aw_tree (I0_ok X _) [] [5, 11] rfl ?_
    repeat' (first | refine And.intro ?_ ?_ | (refine aImp_e0 ?_; intro _) | (refine aImp_n0 ?_; intro _) | (refine aImp_i ?_; intro _))
    all_goals (try (first | omega | exact bI_01 _ | exact bI_lo _ | exact bI_hi _ | exact bI_hi' _ | exact trivial | exact Or.inl rfl | exact Or.inr rfl | (exfalso; omega)))
    refine aw_ist (f := fil f v k) (n := n) rfl ?_ ?_ ?_
    · rw [List.getElem?_set_self hr]
    · unfold aInB; omega
    · rw [List.set_set]
      refine aw_tree (I0_ok X _) [] [5, 11] rfl ?_
      exact ih (k + 1) (by omega)
theorem c_fill {X : AX} (d : Nat) (r n : Nat) (v : Int) (f : FN) (h : AH) (hn : n ≤ 100000) (hh : h[r]? = some (ia n f)) : AF X (d + 2) 0 0 154 [rf r, iv v] h none (h.set r (ia n (fil f v n))) := by
  obtain ⟨hl, he⟩ := List.getElem?_eq_some_iff.mp hh
  refine aw_tree (I0_ok X _) [] [3] rfl ?_
  refine aw_len rfl hh ?_
  refine aw_tree (I0_ok X _) [] [5] rfl ?_
  have goal := c_fill_loop (X := X) (Q := fun r' h'' => r' = none ∧ h'' = h.set r (ia n (fil f v n))) d r n v f h hn hl ⟨rfl, rfl⟩ n 0 (by omega)
  have e : h.set r (ia n (fil f v 0)) = h := by
    show h.set r (ia n f) = h
    rw [← he]
    exact List.set_getElem_self hl
  rw [e] at goal
  exact goal
theorem c_clear0 {X : AX} (d : Nat) (sb ss : Nat) (T : TyT) (G : TyG) (L : TyL) (O : TyO) (R : TyR) (P : TyP) (C : TyC) (B D : TyB) (S N : TyS) (t : AH) : AF X (d + 3) 0 0 40 [rf 31] (CH sb ss T G L O R P C B D S N t) none (CH sb ss T G L O R P C (fil B.1 (-1) 8, B.2.1, B.2.2.1, B.2.2.2.1, 0, 0) D S N t) := by
  refine aw_tree (I0_ok X _) [(true, 49)] [] rfl ?_
  refine aw_cf0 (c_fill (d + 0) 32 8 (-1) B.1 _ (by omega) rfl) rfl ?_
  refine aw_tree (I0_ok X _) [(true, 49)] [] rfl ?_
  exact ⟨rfl, rfl⟩
theorem c_take0 {X : AX} (d : Nat) (sb ss : Nat) (T : TyT) (G : TyG) (L : TyL) (O : TyO) (fk fp due nx0 q im : Int) (P : TyP) (C : TyC) (B D : TyB) (S N : TyS) (t : AH) (c : Int) {Q : AQ} (hc : inR c) (hd : 0 ≤ due ∧ due ≤ 5) (him : im = 0 ∨ im = 1) (hl : ∀ k, 0 ≤ k → k < 8 → -1 ≤ B.1 k ∧ B.1 k ≤ 8) (hk : due = 4 → 0 ≤ B.2.2.2.2.1 ∧ B.2.2.2.2.1 ≤ 24) (hx : due = 2 ∨ due = 5 → 0 ≤ B.2.2.2.2.2 ∧ B.2.2.2.2.2 ≤ 7)
    (hL1 : due = 0 ∨ due = 1 → ¬ (0 ≤ c ∧ c ≤ 7) → Q (some (iv 1)) (CH sb ss T G L O (fk, fp, due, nx0, q, im) P C B D S N t))
    (hL2 : due = 0 ∨ due = 1 → 0 ≤ c ∧ c ≤ 7 → ¬ B.1 c = -1 → Q (some (iv 2)) (CH sb ss T G L O (fk, fp, due, nx0, q, im) P C B D S N t))
    (hL : due = 0 ∨ due = 1 → 0 ≤ c ∧ c ≤ 7 → B.1 c = -1 → Q (some (iv 0)) (CH sb ss T G L O (fk, fp, 2, nx0, q, im) P C (aUp B.1 c B.2.2.2.2.2, B.2.1, B.2.2.1, B.2.2.2.1, B.2.2.2.2.1, B.2.2.2.2.2) D S N t))
    (h2b : due = 2 → c = 8 → Q (some (iv 0)) (CH sb ss T G L O (fk, fp, 3, nx0, q, im) P C B D S N t))
    (h2c : due = 2 → c = 16 → Q (some (iv 0)) (CH sb ss T G L O (fk, fp, 1, nx0, q, im) P C B D S N t))
    (hS : due = 2 ∨ due = 5 → c = 17 → Q (some (iv 0)) (CH sb ss T G L O (fk, fp, 0, nx0, q, im) P C (B.1, aUp B.2.1 B.2.2.2.2.2 B.2.2.2.2.1, B.2.2.1, B.2.2.2.1, B.2.2.2.2.1, B.2.2.2.2.2 + 1) D S N t))
    (h2x : due = 2 → ¬ c = 8 → ¬ c = 16 → ¬ c = 17 → Q (some (iv 1)) (CH sb ss T G L O (fk, fp, due, nx0, q, im) P C B D S N t))
    (h3l : due = 3 → c = 9 → Q (some (iv 0)) (CH sb ss T G L O (fk, fp, 4, nx0, q, 0) P C B D S N t))
    (h3m : due = 3 → c = 10 → Q (some (iv 0)) (CH sb ss T G L O (fk, fp, 4, nx0, q, 1) P C B D S N t))
    (h3x : due = 3 → ¬ c = 9 → ¬ c = 10 → Q (some (iv 1)) (CH sb ss T G L O (fk, fp, due, nx0, q, 0) P C B D S N t))
    (h4k : due = 4 → 11 ≤ c ∧ c ≤ 15 → Q (some (iv 0)) (CH sb ss T G L O (fk, fp, 5, nx0, q, im) P C (B.1, B.2.1, aUp B.2.2.1 B.2.2.2.2.1 c, aUp B.2.2.2.1 B.2.2.2.2.1 im, B.2.2.2.2.1 + 1, B.2.2.2.2.2) D S N t))
    (h4x : due = 4 → ¬ (11 ≤ c ∧ c ≤ 15) → Q (some (iv 1)) (CH sb ss T G L O (fk, fp, due, nx0, q, im) P C B D S N t))
    (h5c : due = 5 → c = 16 → Q (some (iv 0)) (CH sb ss T G L O (fk, fp, 3, nx0, q, im) P C B D S N t))
    (h5x : due = 5 → ¬ c = 16 → ¬ c = 17 → Q (some (iv 1)) (CH sb ss T G L O (fk, fp, due, nx0, q, im) P C B D S N t)) :
    AW X (d + 4) 0 0 53 0 (aEntry 53 [rf 16, iv c, rf 31]) [] (CH sb ss T G L O (fk, fp, due, nx0, q, im) P C B D S N t) Q := by
  have hc' := hc
  unfold inR at hc'
  have hdd : due = 0 ∨ due = 1 ∨ due = 2 ∨ due = 3 ∨ due = 4 ∨ due = 5 := by omega
  rcases hdd with rfl | rfl | rfl | rfl | rfl | rfl
  · refine aw_tree (I0_ok X _) [(true, 49)] [] rfl ?_
    dsimp only
    repeat' (first | refine And.intro ?_ ?_ | (refine aImp_e0 ?_; intro _) | (refine aImp_n0 ?_; intro _) | (refine aImp_i ?_; intro _))
    all_goals (try (first | omega | exact bI_01 _ | exact bI_lo _ | exact bI_hi _ | exact bI_hi' _ | exact trivial | exact Or.inl rfl | exact Or.inr rfl | (exfalso; omega)))
    refine aw_ck0 (c_takeLetter0 d sb ss T G L O fk fp 0 nx0 q im P C B D S N t c hc hl (fun h => ?_) (fun h h' => ?_) (fun h h' => ?_)) rfl
    · refine aw_tree (I0_ok X _) [(true, 49)] [] rfl ?_
      exact hL1 (Or.inl rfl) h
    · refine aw_tree (I0_ok X _) [(true, 49)] [] rfl ?_
      exact hL2 (Or.inl rfl) h h'
    · refine aw_tree (I0_ok X _) [(true, 49)] [] rfl ?_
      exact hL (Or.inl rfl) h h'
  · refine aw_tree (I0_ok X _) [(true, 49)] [] rfl ?_
    dsimp only
    repeat' (first | refine And.intro ?_ ?_ | (refine aImp_e0 ?_; intro _) | (refine aImp_n0 ?_; intro _) | (refine aImp_i ?_; intro _))
    all_goals (try (first | omega | exact bI_01 _ | exact bI_lo _ | exact bI_hi _ | exact bI_hi' _ | exact trivial | exact Or.inl rfl | exact Or.inr rfl | (exfalso; omega)))
    refine aw_ck0 (c_takeLetter0 d sb ss T G L O fk fp 1 nx0 q im P C B D S N t c hc hl (fun h => ?_) (fun h h' => ?_) (fun h h' => ?_)) rfl
    · refine aw_tree (I0_ok X _) [(true, 49)] [] rfl ?_
      exact hL1 (Or.inr rfl) h
    · refine aw_tree (I0_ok X _) [(true, 49)] [] rfl ?_
      exact hL2 (Or.inr rfl) h h'
    · refine aw_tree (I0_ok X _) [(true, 49)] [] rfl ?_
      exact hL (Or.inr rfl) h h'
  · by_cases h8 : c = 8
    · refine aw_tree (I0_ok X _) [(true, 49)] [] rfl ?_
      dsimp only
      repeat' (first | refine And.intro ?_ ?_ | (refine aImp_e0 ?_; intro _) | (refine aImp_n0 ?_; intro _) | (refine aImp_i ?_; intro _))
      all_goals (try (first | omega | exact bI_01 _ | exact bI_lo _ | exact bI_hi _ | exact bI_hi' _ | exact trivial | exact Or.inl rfl | exact Or.inr rfl | (exfalso; omega)))
      refine aw_cf0 (c_goOn _ sb ss T G L O fk fp 2 nx0 q im P C B D S N t 3) rfl ?_
      refine aw_tree (I0_ok X _) [(true, 49)] [] rfl ?_
      exact h2b rfl h8
    · refine aw_tree (I0_ok X _) [(true, 49)] [] rfl ?_
      dsimp only
      repeat' (first | refine And.intro ?_ ?_ | (refine aImp_e0 ?_; intro _) | (refine aImp_n0 ?_; intro _) | (refine aImp_i ?_; intro _))
      all_goals (try (first | omega | exact bI_01 _ | exact bI_lo _ | exact bI_hi _ | exact bI_hi' _ | exact trivial | exact Or.inl rfl | exact Or.inr rfl | (exfalso; omega)))
      refine aw_ck0 (c_takeSep0 d sb ss T G L O fk fp 2 nx0 q im P C B D S N t c 1 hc (hx (Or.inl rfl)) (fun h h' => ?_) (fun h => ?_) (fun h => ?_)) rfl
      · refine aw_tree (I0_ok X _) [(true, 49)] [] rfl ?_
        exact h2x rfl h8 h h'
      · refine aw_tree (I0_ok X _) [(true, 49)] [] rfl ?_
        exact h2c rfl h
      · refine aw_tree (I0_ok X _) [(true, 49)] [] rfl ?_
        exact hS (Or.inl rfl) h
  · by_cases h9 : c = 9
    · refine aw_tree (I0_ok X _) [(true, 49)] [] rfl ?_
      dsimp only
      repeat' (first | refine And.intro ?_ ?_ | (refine aImp_e0 ?_; intro _) | (refine aImp_n0 ?_; intro _) | (refine aImp_i ?_; intro _))
      all_goals (try (first | omega | exact bI_01 _ | exact bI_lo _ | exact bI_hi _ | exact bI_hi' _ | exact trivial | exact Or.inl rfl | exact Or.inr rfl | (exfalso; omega)))
      refine aw_cf0 (c_goOn _ sb ss T G L O fk fp 3 nx0 q 0 P C B D S N t 4) rfl ?_
      refine aw_tree (I0_ok X _) [(true, 49)] [] rfl ?_
      exact h3l rfl h9
    · by_cases h10 : c = 10
      · refine aw_tree (I0_ok X _) [(true, 49)] [] rfl ?_
        dsimp only
        repeat' (first | refine And.intro ?_ ?_ | (refine aImp_e0 ?_; intro _) | (refine aImp_n0 ?_; intro _) | (refine aImp_i ?_; intro _))
        all_goals (try (first | omega | exact bI_01 _ | exact bI_lo _ | exact bI_hi _ | exact bI_hi' _ | exact trivial | exact Or.inl rfl | exact Or.inr rfl | (exfalso; omega)))
        refine aw_cf0 (c_goOn _ sb ss T G L O fk fp 3 nx0 q 1 P C B D S N t 4) rfl ?_
        refine aw_tree (I0_ok X _) [(true, 49)] [] rfl ?_
        exact h3m rfl h10
      · refine aw_tree (I0_ok X _) [(true, 49)] [] rfl ?_
        dsimp only
        repeat' (first | refine And.intro ?_ ?_ | (refine aImp_e0 ?_; intro _) | (refine aImp_n0 ?_; intro _) | (refine aImp_i ?_; intro _))
        all_goals (try (first | omega | exact bI_01 _ | exact bI_lo _ | exact bI_hi _ | exact bI_hi' _ | exact trivial | exact Or.inl rfl | exact Or.inr rfl | (exfalso; omega)))
        exact h3x rfl h9 h10
  · refine aw_tree (I0_ok X _) [(true, 49)] [] rfl ?_
    dsimp only
    repeat' (first | refine And.intro ?_ ?_ | (refine aImp_e0 ?_; intro _) | (refine aImp_n0 ?_; intro _) | (refine aImp_i ?_; intro _))
    all_goals (try (first | omega | exact bI_01 _ | exact bI_lo _ | exact bI_hi _ | exact bI_hi' _ | exact trivial | exact Or.inl rfl | exact Or.inr rfl | (exfalso; omega)))
    refine aw_ck0 (c_takeField0 d sb ss T G L O fk fp 4 nx0 q im P C B D S N t c hc him (hk rfl) (fun h => ?_) (fun h => ?_)) rfl
    · refine aw_tree (I0_ok X _) [(true, 49)] [] rfl ?_
      exact h4x rfl h
    · refine aw_tree (I0_ok X _) [(true, 49)] [] rfl ?_
      exact h4k rfl h
  · refine aw_tree (I0_ok X _) [(true, 49)] [] rfl ?_
    dsimp only
    repeat' (first | refine And.intro ?_ ?_ | (refine aImp_e0 ?_; intro _) | (refine aImp_n0 ?_; intro _) | (refine aImp_i ?_; intro _))
    all_goals (try (first | omega | exact bI_01 _ | exact bI_lo _ | exact bI_hi _ | exact bI_hi' _ | exact trivial | exact Or.inl rfl | exact Or.inr rfl | (exfalso; omega)))
    refine aw_ck0 (c_takeSep0 d sb ss T G L O fk fp 5 nx0 q im P C B D S N t c 3 hc (hx (Or.inr rfl)) (fun h h' => ?_) (fun h => ?_) (fun h => ?_)) rfl
    · refine aw_tree (I0_ok X _) [(true, 49)] [] rfl ?_
      exact h5x rfl h h'
    · refine aw_tree (I0_ok X _) [(true, 49)] [] rfl ?_
      exact h5c rfl h
    · refine aw_tree (I0_ok X _) [(true, 49)] [] rfl ?_
      exact hS (Or.inr rfl) h
theorem c_clear1 {X : AX} (d : Nat) (sb ss : Nat) (T : TyT) (G : TyG) (L : TyL) (O : TyO) (R : TyR) (P : TyP) (C : TyC) (B D : TyB) (S N : TyS) (t : AH) : AF X (d + 3) 0 0 40 [rf 36] (CH sb ss T G L O R P C B D S N t) none (CH sb ss T G L O R P C B (fil D.1 (-1) 8, D.2.1, D.2.2.1, D.2.2.2.1, 0, 0) S N t) := by
  refine aw_tree (I0_ok X _) [(true, 49)] [] rfl ?_
  refine aw_cf0 (c_fill (d + 0) 37 8 (-1) D.1 _ (by omega) rfl) rfl ?_
  refine aw_tree (I0_ok X _) [(true, 49)] [] rfl ?_
  exact ⟨rfl, rfl⟩
theorem c_take1 {X : AX} (d : Nat) (sb ss : Nat) (T : TyT) (G : TyG) (L : TyL) (O : TyO) (fk fp due nx0 q im : Int) (P : TyP) (C : TyC) (B D : TyB) (S N : TyS) (t : AH) (c : Int) {Q : AQ} (hc : inR c) (hd : 0 ≤ due ∧ due ≤ 5) (him : im = 0 ∨ im = 1) (hl : ∀ k, 0 ≤ k → k < 8 → -1 ≤ D.1 k ∧ D.1 k ≤ 8) (hk : due = 4 → 0 ≤ D.2.2.2.2.1 ∧ D.2.2.2.2.1 ≤ 24) (hx : due = 2 ∨ due = 5 → 0 ≤ D.2.2.2.2.2 ∧ D.2.2.2.2.2 ≤ 7)
    (hL1 : due = 0 ∨ due = 1 → ¬ (0 ≤ c ∧ c ≤ 7) → Q (some (iv 1)) (CH sb ss T G L O (fk, fp, due, nx0, q, im) P C B D S N t))
    (hL2 : due = 0 ∨ due = 1 → 0 ≤ c ∧ c ≤ 7 → ¬ D.1 c = -1 → Q (some (iv 2)) (CH sb ss T G L O (fk, fp, due, nx0, q, im) P C B D S N t))
    (hL : due = 0 ∨ due = 1 → 0 ≤ c ∧ c ≤ 7 → D.1 c = -1 → Q (some (iv 0)) (CH sb ss T G L O (fk, fp, 2, nx0, q, im) P C B (aUp D.1 c D.2.2.2.2.2, D.2.1, D.2.2.1, D.2.2.2.1, D.2.2.2.2.1, D.2.2.2.2.2) S N t))
    (h2b : due = 2 → c = 8 → Q (some (iv 0)) (CH sb ss T G L O (fk, fp, 3, nx0, q, im) P C B D S N t))
    (h2c : due = 2 → c = 16 → Q (some (iv 0)) (CH sb ss T G L O (fk, fp, 1, nx0, q, im) P C B D S N t))
    (hS : due = 2 ∨ due = 5 → c = 17 → Q (some (iv 0)) (CH sb ss T G L O (fk, fp, 0, nx0, q, im) P C B (D.1, aUp D.2.1 D.2.2.2.2.2 D.2.2.2.2.1, D.2.2.1, D.2.2.2.1, D.2.2.2.2.1, D.2.2.2.2.2 + 1) S N t))
    (h2x : due = 2 → ¬ c = 8 → ¬ c = 16 → ¬ c = 17 → Q (some (iv 1)) (CH sb ss T G L O (fk, fp, due, nx0, q, im) P C B D S N t))
    (h3l : due = 3 → c = 9 → Q (some (iv 0)) (CH sb ss T G L O (fk, fp, 4, nx0, q, 0) P C B D S N t))
    (h3m : due = 3 → c = 10 → Q (some (iv 0)) (CH sb ss T G L O (fk, fp, 4, nx0, q, 1) P C B D S N t))
    (h3x : due = 3 → ¬ c = 9 → ¬ c = 10 → Q (some (iv 1)) (CH sb ss T G L O (fk, fp, due, nx0, q, 0) P C B D S N t))
    (h4k : due = 4 → 11 ≤ c ∧ c ≤ 15 → Q (some (iv 0)) (CH sb ss T G L O (fk, fp, 5, nx0, q, im) P C B (D.1, D.2.1, aUp D.2.2.1 D.2.2.2.2.1 c, aUp D.2.2.2.1 D.2.2.2.2.1 im, D.2.2.2.2.1 + 1, D.2.2.2.2.2) S N t))
    (h4x : due = 4 → ¬ (11 ≤ c ∧ c ≤ 15) → Q (some (iv 1)) (CH sb ss T G L O (fk, fp, due, nx0, q, im) P C B D S N t))
    (h5c : due = 5 → c = 16 → Q (some (iv 0)) (CH sb ss T G L O (fk, fp, 3, nx0, q, im) P C B D S N t))
    (h5x : due = 5 → ¬ c = 16 → ¬ c = 17 → Q (some (iv 1)) (CH sb ss T G L O (fk, fp, due, nx0, q, im) P C B D S N t)) :
    AW X (d + 4) 0 0 53 0 (aEntry 53 [rf 16, iv c, rf 36]) [] (CH sb ss T G L O (fk, fp, due, nx0, q, im) P C B D S N t) Q := by
  have hc' := hc
  unfold inR at hc'
  have hdd : due = 0 ∨ due = 1 ∨ due = 2 ∨ due = 3 ∨ due = 4 ∨ due = 5 := by omega
  rcases hdd with rfl | rfl | rfl | rfl | rfl | rfl
  · refine aw_tree (I0_ok X _) [(true, 49)] [] rfl ?_
    dsimp only
    repeat' (first | refine And.intro ?_ ?_ | (refine aImp_e0 ?_; intro _) | (refine aImp_n0 ?_; intro _) | (refine aImp_i ?_; intro _))
    all_goals (try (first | omega | exact bI_01 _ | exact bI_lo _ | exact bI_hi _ | exact bI_hi' _ | exact trivial | exact Or.inl rfl | exact Or.inr rfl | (exfalso; omega)))
    refine aw_ck0 (c_takeLetter1 d sb ss T G L O fk fp 0 nx0 q im P C B D S N t c hc hl (fun h => ?_) (fun h h' => ?_) (fun h h' => ?_)) rfl
    · refine aw_tree (I0_ok X _) [(true, 49)] [] rfl ?_
      exact hL1 (Or.inl rfl) h
    · refine aw_tree (I0_ok X _) [(true, 49)] [] rfl ?_
      exact hL2 (Or.inl rfl) h h'
    · refine aw_tree (I0_ok X _) [(true, 49)] [] rfl ?_
      exact hL (Or.inl rfl) h h'
  · refine aw_tree (I0_ok X _) [(true, 49)] [] rfl ?_
    dsimp only
    repeat' (first | refine And.intro ?_ ?_ | (refine aImp_e0 ?_; intro _) | (refine aImp_n0 ?_; intro _) | (refine aImp_i ?_; intro _))
    all_goals (try (first | omega | exact bI_01 _ | exact bI_lo _ | exact bI_hi _ | exact bI_hi' _ | exact trivial | exact Or.inl rfl | exact Or.inr rfl | (exfalso; omega)))
    refine aw_ck0 (c_takeLetter1 d sb ss T G L O fk fp 1 nx0 q im P C B D S N t c hc hl (fun h => ?_) (fun h h' => ?_) (fun h h' => ?_)) rfl
    · refine aw_tree (I0_ok X _) [(true, 49)] [] rfl ?_
      exact hL1 (Or.inr rfl) h
    · refine aw_tree (I0_ok X _) [(true, 49)] [] rfl ?_
      exact hL2 (Or.inr rfl) h h'
    · refine aw_tree (I0_ok X _) [(true, 49)] [] rfl ?_
      exact hL (Or.inr rfl) h h'
  · by_cases h8 : c = 8
    · refine aw_tree (I0_ok X _) [(true, 49)] [] rfl ?_
      dsimp only
      repeat' (first | refine And.intro ?_ ?_ | (refine aImp_e0 ?_; intro _) | (refine aImp_n0 ?_; intro _) | (refine aImp_i ?_; intro _))
      all_goals (try (first | omega | exact bI_01 _ | exact bI_lo _ | exact bI_hi _ | exact bI_hi' _ | exact trivial | exact Or.inl rfl | exact Or.inr rfl | (exfalso; omega)))
      refine aw_cf0 (c_goOn _ sb ss T G L O fk fp 2 nx0 q im P C B D S N t 3) rfl ?_
      refine aw_tree (I0_ok X _) [(true, 49)] [] rfl ?_
      exact h2b rfl h8
    · refine aw_tree (I0_ok X _) [(true, 49)] [] rfl ?_
      dsimp only
      repeat' (first | refine And.intro ?_ ?_ | (refine aImp_e0 ?_; intro _) | (refine aImp_n0 ?_; intro _) | (refine aImp_i ?_; intro _))
      all_goals (try (first | omega | exact bI_01 _ | exact bI_lo _ | exact bI_hi _ | exact bI_hi' _ | exact trivial | exact Or.inl rfl | exact Or.inr rfl | (exfalso; omega)))
      refine aw_ck0 (c_takeSep1 d sb ss T G L O fk fp 2 nx0 q im P C B D S N t c 1 hc (hx (Or.inl rfl)) (fun h h' => ?_) (fun h => ?_) (fun h => ?_)) rfl
      · refine aw_tree (I0_ok X _) [(true, 49)] [] rfl ?_
        exact h2x rfl h8 h h'
      · refine aw_tree (I0_ok X _) [(true, 49)] [] rfl ?_
        exact h2c rfl h
      · refine aw_tree (I0_ok X _) [(true, 49)] [] rfl ?_
        exact hS (Or.inl rfl) h
  · by_cases h9 : c = 9
    · refine aw_tree (I0_ok X _) [(true, 49)] [] rfl ?_
      dsimp only
      repeat' (first | refine And.intro ?_ ?_ | (refine aImp_e0 ?_; intro _) | (refine aImp_n0 ?_; intro _) | (refine aImp_i ?_; intro _))
      all_goals (try (first | omega | exact bI_01 _ | exact bI_lo _ | exact bI_hi _ | exact bI_hi' _ | exact trivial | exact Or.inl rfl | exact Or.inr rfl | (exfalso; omega)))
      refine aw_cf0 (c_goOn _ sb ss T G L O fk fp 3 nx0 q 0 P C B D S N t 4) rfl ?_
      refine aw_tree (I0_ok X _) [(true, 49)] [] rfl ?_
      exact h3l rfl h9
    · by_cases h10 : c = 10
      · refine aw_tree (I0_ok X _) [(true, 49)] [] rfl ?_
        dsimp only
        repeat' (first | refine And.intro ?_ ?_ | (refine aImp_e0 ?_; intro _) | (refine aImp_n0 ?_; intro _) | (refine aImp_i ?_; intro _))
        all_goals (try (first | omega | exact bI_01 _ | exact bI_lo _ | exact bI_hi _ | exact bI_hi' _ | exact trivial | exact Or.inl rfl | exact Or.inr rfl | (exfalso; omega)))
        refine aw_cf0 (c_goOn _ sb ss T G L O fk fp 3 nx0 q 1 P C B D S N t 4) rfl ?_
        refine aw_tree (I0_ok X _) [(true, 49)] [] rfl ?_
        exact h3m rfl h10
      · refine aw_tree (I0_ok X _) [(true, 49)] [] rfl ?_
        dsimp only
        repeat' (first | refine And.intro ?_ ?_ | (refine aImp_e0 ?_; intro _) | (refine aImp_n0 ?_; intro _) | (refine aImp_i ?_; intro _))
        all_goals (try (first | omega | exact bI_01 _ | exact bI_lo _ | exact bI_hi _ | exact bI_hi' _ | exact trivial | exact Or.inl rfl | exact Or.inr rfl | (exfalso; omega)))
        exact h3x rfl h9 h10
  · refine aw_tree (I0_ok X _) [(true, 49)] [] rfl ?_
    dsimp only
    repeat' (first | refine And.intro ?_ ?_ | (refine aImp_e0 ?_; intro _) | (refine aImp_n0 ?_; intro _) | (refine aImp_i ?_; intro _))
    all_goals (try (first | omega | exact bI_01 _ | exact bI_lo _ | exact bI_hi _ | exact bI_hi' _ | exact trivial | exact Or.inl rfl | exact Or.inr rfl | (exfalso; omega)))
    refine aw_ck0 (c_takeField1 d sb ss T G L O fk fp 4 nx0 q im P C B D S N t c hc him (hk rfl) (fun h => ?_) (fun h => ?_)) rfl
    · refine aw_tree (I0_ok X _) [(true, 49)] [] rfl ?_
      exact h4x rfl h
    · refine aw_tree (I0_ok X _) [(true, 49)] [] rfl ?_
      exact h4k rfl h
  · refine aw_tree (I0_ok X _) [(true, 49)] [] rfl ?_
    dsimp only
    repeat' (first | refine And.intro ?_ ?_ | (refine aImp_e0 ?_; intro _) | (refine aImp_n0 ?_; intro _) | (refine aImp_i ?_; intro _))
    all_goals (try (first | omega | exact bI_01 _ | exact bI_lo _ | exact bI_hi _ | exact bI_hi' _ | exact trivial | exact Or.inl rfl | exact Or.inr rfl | (exfalso; omega)))
    refine aw_ck0 (c_takeSep1 d sb ss T G L O fk fp 5 nx0 q im P C B D S N t c 3 hc (hx (Or.inr rfl)) (fun h h' => ?_) (fun h => ?_) (fun h => ?_)) rfl
    · refine aw_tree (I0_ok X _) [(true, 49)] [] rfl ?_
      exact h5x rfl h h'
    · refine aw_tree (I0_ok X _) [(true, 49)] [] rfl ?_
      exact h5c rfl h
    · refine aw_tree (I0_ok X _) [(true, 49)] [] rfl ?_
      exact hS (Or.inr rfl) h

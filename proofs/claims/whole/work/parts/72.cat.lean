/-! ===== the class: at, spare ===== -/
def kL (S : TyS) : Prop := (0 ≤ S.2.2.2.1 ∧ S.2.2.2.1 ≤ 32) ∧ (∀ i, 0 ≤ i → i < S.2.2.2.1 → 0 ≤ S.2.2.1 i ∧ S.2.2.1 i < 32) ∧ (∀ g, 0 ≤ g → g < 32 → (-2 ≤ S.1 g ∧ S.1 g ≤ 5) ∧ (-1 ≤ S.2.1 g ∧ S.2.1 g ≤ 40))
def kW (G : TyG) : Prop := ∀ g, 0 ≤ g → g < 32 → (0 ≤ G.2.2.2.1 g ∧ G.2.2.2.1 g ≤ 6) ∧ (0 ≤ G.2.2.2.2.1 g ∧ G.2.2.2.2.1 g ≤ 80)
def atC (S : TyS) (G : TyG) (row place g : Int) : Prop := S.1 g = row ∧ S.2.1 g ≤ place ∧ place ≤ S.2.1 g + G.2.2.2.1 g - 1
noncomputable def ptC (S : TyS) (G : TyG) (row i : Int) : Int := cif (S.1 (S.2.2.1 i) = row) (G.2.2.2.1 (S.2.2.1 i)) 0
theorem ptC_r {S : TyS} {G : TyG} {row : Int} (hS : kL S) (hG : kW G) : ∀ (k : Nat), (k : Int) ≤ S.2.2.2.1 → 0 ≤ smN (ptC S G row) k ∧ smN (ptC S G row) k ≤ 6 * k := by
  intro k
  induction k with
  | zero => intro _; rw [smN]; omega
  | succ k ih =>
    intro hk
    have h1 := ih (by push_cast at hk; omega)
    have h2 := hS.2.1 k (by omega) (by push_cast at hk; omega)
    have h3 := (hG _ h2.1 h2.2).1
    rw [smN]
    unfold ptC at *
    by_cases c : S.1 (S.2.2.1 k) = row
    · rw [cif_t c]; push_cast; omega
    · rw [cif_f c]; push_cast; omega
theorem c_sit_loop0 {X : AX} (d : Nat) (sb ss : Nat) (T : TyT) (G : TyG) (L : TyL) (O : TyO) (R : TyR) (P : TyP) (C : TyC) (B D : TyB) (S N : TyS) (t : AH) (row place : Int) {Q : AQ} (hrow : inR row) (hpl : inR place) (hS : kL S) (hG : kW G)
    (h1 : (∀ i, 0 ≤ i → i < S.2.2.2.1 → ¬ atC S G row place (S.2.2.1 i)) → Q (some (iv (-1))) (CH sb ss T G L O R P C B D S N t))
    (h2 : ∀ i, 0 ≤ i → i < S.2.2.2.1 → atC S G row place (S.2.2.1 i) → Q (some (iv (S.2.2.1 i))) (CH sb ss T G L O R P C B D S N t)) :
    ∀ (m k : Nat) (v5 v6 : AV), k + m = S.2.2.2.1.toNat → (∀ i, 0 ≤ i → i < (k : Int) → ¬ atC S G row place (S.2.2.1 i)) → AW X (d + 3) 0 0 65 2 [rf 41, iv row, iv place, rf 3, iv k, v5, v6] [] (CH sb ss T G L O R P C B D S N t) Q := by
  have hm := hS.1
  unfold inR at hrow hpl
  intro m
  induction m with
  | zero =>
    intro k v5 v6 hk hno
    have q := h1 (fun i i0 i1 => hno i i0 (by omega))
    refine aw_tree (I0_ok X _) [(true, 49)] [2] rfl ?_
    repeat' (first | refine And.intro ?_ ?_ | (refine aImp_e0 ?_; intro _) | (refine aImp_n0 ?_; intro _) | (refine aImp_i ?_; intro _))
    all_goals (try (first | omega | exact bI_01 _ | exact bI_lo _ | exact bI_hi _ | exact bI_hi' _ | exact trivial | exact Or.inl rfl | exact Or.inr rfl | (exfalso; omega)))
    exact q
  | succ m ih =>
    intro k v5 v6 hk hno
    have hl := hS.2.1 k (by omega) (by omega)
    have hs := hS.2.2 _ hl.1 hl.2
    have hw := (hG _ hl.1 hl.2).1
    have q := h2 k (by omega) (by omega)
    have goal := fun v5 v6 (hn : ¬ atC S G row place (S.2.2.1 k)) => ih (k + 1) v5 v6 (by omega) (fun i i0 i1 => by
      by_cases e : i = k
      · rw [e]; exact hn
      · exact hno i i0 (by push_cast at i1; omega))
    unfold atC at q goal
    refine aw_tree (I0_ok X _) [(true, 49)] [2] rfl ?_
    repeat' (first | refine And.intro ?_ ?_ | (refine aImp_e0 ?_; intro _) | (refine aImp_n0 ?_; intro _) | (refine aImp_i ?_; intro _))
    all_goals (try (first | omega | exact bI_01 _ | exact bI_lo _ | exact bI_hi _ | exact bI_hi' _ | exact trivial | exact Or.inl rfl | exact Or.inr rfl | (exfalso; omega)))
    all_goals first
      | exact q (by omega)
      | exact goal _ _ (by omega)
theorem c_sitterAt0 {X : AX} (d : Nat) (sb ss : Nat) (T : TyT) (G : TyG) (L : TyL) (O : TyO) (R : TyR) (P : TyP) (C : TyC) (B D : TyB) (S N : TyS) (t : AH) (row place : Int) {Q : AQ} (hrow : inR row) (hpl : inR place) (hS : kL S) (hG : kW G)
    (h1 : (∀ i, 0 ≤ i → i < S.2.2.2.1 → ¬ atC S G row place (S.2.2.1 i)) → Q (some (iv (-1))) (CH sb ss T G L O R P C B D S N t))
    (h2 : ∀ i, 0 ≤ i → i < S.2.2.2.1 → atC S G row place (S.2.2.1 i) → Q (some (iv (S.2.2.1 i))) (CH sb ss T G L O R P C B D S N t)) :
    AW X (d + 3) 0 0 65 0 (aEntry 65 [rf 41, iv row, iv place, rf 3]) [] (CH sb ss T G L O R P C B D S N t) Q := by
  have hm := hS.1
  refine aw_tree (I0_ok X _) [(true, 49)] [2] rfl ?_
  exact c_sit_loop0 d sb ss T G L O R P C B D S N t row place hrow hpl hS hG h1 h2 S.2.2.2.1.toNat 0 jk jk (by omega) (fun i a b => by push_cast at b; omega)
theorem c_at0 {X : AX} (d : Nat) (sb : Nat) (T : TyT) (G : TyG) (L : TyL) (O : TyO) (R : TyR) (P : TyP) (C : TyC) (B D : TyB) (S N : TyS) (t : AH) (row place : Int) {Q : AQ} (hrow : inR row) (hpl : inR place) (hS : kL S) (hG : kW G)
    (h1 : (∀ i, 0 ≤ i → i < S.2.2.2.1 → ¬ atC S G row place (S.2.2.1 i)) → Q (some (iv (-1))) (CH sb 0 T G L O R P C B D S N t))
    (h2 : ∀ i, 0 ≤ i → i < S.2.2.2.1 → atC S G row place (S.2.2.1 i) → Q (some (iv (S.2.2.1 i))) (CH sb 0 T G L O R P C B D S N t)) :
    AW X (d + 4) 0 0 92 0 (aEntry 92 [rf 0, iv row, iv place]) [] (CH sb 0 T G L O R P C B D S N t) Q := by
  refine aw_tree (I0_ok X _) [(true, 49)] [] rfl ?_
  refine aw_ck0 (c_sitterAt0 _ sb 0 T G L O R P C B D S N t row place hrow hpl hS hG (fun h => ?_) (fun i i0 i1 h => ?_)) rfl
  · refine aw_tree (I0_ok X _) [(true, 49)] [] rfl ?_
    exact h1 h
  · refine aw_tree (I0_ok X _) [(true, 49)] [] rfl ?_
    exact h2 i i0 i1 h
theorem c_pt_loop0 {X : AX} (d : Nat) (sb ss : Nat) (T : TyT) (G : TyG) (L : TyL) (O : TyO) (R : TyR) (P : TyP) (C : TyC) (B D : TyB) (S N : TyS) (t : AH) (row : Int) {Q : AQ} (hrow : inR row) (hS : kL S) (hG : kW G)
    (hQ : Q (some (iv (smN (ptC S G row) S.2.2.2.1.toNat))) (CH sb ss T G L O R P C B D S N t)) :
    ∀ (m k : Nat), k + m = S.2.2.2.1.toNat → AW X (d + 2) 0 0 66 4 [rf 41, iv row, rf 3, iv (smN (ptC S G row) k), iv k] [] (CH sb ss T G L O R P C B D S N t) Q := by
  have hm := hS.1
  unfold inR at hrow
  intro m
  induction m with
  | zero =>
    intro k hk
    have e : k = S.2.2.2.1.toNat := by omega
    rw [← e] at hQ
    refine aw_tree (I0_ok X _) [(true, 49)] [4] rfl ?_
    repeat' (first | refine And.intro ?_ ?_ | (refine aImp_e0 ?_; intro _) | (refine aImp_n0 ?_; intro _) | (refine aImp_i ?_; intro _))
    all_goals (try (first | omega | exact bI_01 _ | exact bI_lo _ | exact bI_hi _ | exact bI_hi' _ | exact trivial | exact Or.inl rfl | exact Or.inr rfl | (exfalso; omega)))
    exact hQ
  | succ m ih =>
    intro k hk
    have hl := hS.2.1 k (by omega) (by omega)
    have hs := hS.2.2 _ hl.1 hl.2
    have hw := (hG _ hl.1 hl.2).1
    have goal := ih (k + 1) (by omega)
    rw [smN] at goal
    by_cases c : S.1 (S.2.2.1 k) = row
    · rw [show ptC S G row k = G.2.2.2.1 (S.2.2.1 k) from cif_t c _ _] at goal
      refine aw_tree (I0_ok X _) [(true, 49)] [4] rfl ?_
      repeat' (first | refine And.intro ?_ ?_ | (refine aImp_e0 ?_; intro _) | (refine aImp_n0 ?_; intro _) | (refine aImp_i ?_; intro _))
      all_goals (try (first | omega | exact bI_01 _ | exact bI_lo _ | exact bI_hi _ | exact bI_hi' _ | exact trivial | exact Or.inl rfl | exact Or.inr rfl | (exfalso; omega)))
      exact goal
    · rw [show ptC S G row k = 0 from cif_f c _ _, Int.add_zero] at goal
      refine aw_tree (I0_ok X _) [(true, 49)] [4] rfl ?_
      repeat' (first | refine And.intro ?_ ?_ | (refine aImp_e0 ?_; intro _) | (refine aImp_n0 ?_; intro _) | (refine aImp_i ?_; intro _))
      all_goals (try (first | omega | exact bI_01 _ | exact bI_lo _ | exact bI_hi _ | exact bI_hi' _ | exact trivial | exact Or.inl rfl | exact Or.inr rfl | (exfalso; omega)))
      exact goal
theorem c_placesTaken0 {X : AX} (d : Nat) (sb ss : Nat) (T : TyT) (G : TyG) (L : TyL) (O : TyO) (R : TyR) (P : TyP) (C : TyC) (B D : TyB) (S N : TyS) (t : AH) (row : Int) (hrow : inR row) (hS : kL S) (hG : kW G) :
    AF X (d + 2) 0 0 66 [rf 41, iv row, rf 3] (CH sb ss T G L O R P C B D S N t) (some (iv (smN (ptC S G row) S.2.2.2.1.toNat))) (CH sb ss T G L O R P C B D S N t) := by
  have hm := hS.1
  refine aw_tree (I0_ok X _) [(true, 49)] [4] rfl ?_
  exact c_pt_loop0 d sb ss T G L O R P C B D S N t row hrow hS hG ⟨rfl, rfl⟩ S.2.2.2.1.toNat 0 (by omega)
theorem c_sit_loop1 {X : AX} (d : Nat) (sb ss : Nat) (T : TyT) (G : TyG) (L : TyL) (O : TyO) (R : TyR) (P : TyP) (C : TyC) (B D : TyB) (S N : TyS) (t : AH) (row place : Int) {Q : AQ} (hrow : inR row) (hpl : inR place) (hS : kL N) (hG : kW G)
    (h1 : (∀ i, 0 ≤ i → i < N.2.2.2.1 → ¬ atC N G row place (N.2.2.1 i)) → Q (some (iv (-1))) (CH sb ss T G L O R P C B D S N t))
    (h2 : ∀ i, 0 ≤ i → i < N.2.2.2.1 → atC N G row place (N.2.2.1 i) → Q (some (iv (N.2.2.1 i))) (CH sb ss T G L O R P C B D S N t)) :
    ∀ (m k : Nat) (v5 v6 : AV), k + m = N.2.2.2.1.toNat → (∀ i, 0 ≤ i → i < (k : Int) → ¬ atC N G row place (N.2.2.1 i)) → AW X (d + 3) 0 0 65 2 [rf 45, iv row, iv place, rf 3, iv k, v5, v6] [] (CH sb ss T G L O R P C B D S N t) Q := by
  have hm := hS.1
  unfold inR at hrow hpl
  intro m
  induction m with
  | zero =>
    intro k v5 v6 hk hno
    have q := h1 (fun i i0 i1 => hno i i0 (by omega))
    refine aw_tree (I0_ok X _) [(true, 49)] [2] rfl ?_
    repeat' (first | refine And.intro ?_ ?_ | (refine aImp_e0 ?_; intro _) | (refine aImp_n0 ?_; intro _) | (refine aImp_i ?_; intro _))
    all_goals (try (first | omega | exact bI_01 _ | exact bI_lo _ | exact bI_hi _ | exact bI_hi' _ | exact trivial | exact Or.inl rfl | exact Or.inr rfl | (exfalso; omega)))
    exact q
  | succ m ih =>
    intro k v5 v6 hk hno
    have hl := hS.2.1 k (by omega) (by omega)
    have hs := hS.2.2 _ hl.1 hl.2
    have hw := (hG _ hl.1 hl.2).1
    have q := h2 k (by omega) (by omega)
    have goal := fun v5 v6 (hn : ¬ atC N G row place (N.2.2.1 k)) => ih (k + 1) v5 v6 (by omega) (fun i i0 i1 => by
      by_cases e : i = k
      · rw [e]; exact hn
      · exact hno i i0 (by push_cast at i1; omega))
    unfold atC at q goal
    refine aw_tree (I0_ok X _) [(true, 49)] [2] rfl ?_
    repeat' (first | refine And.intro ?_ ?_ | (refine aImp_e0 ?_; intro _) | (refine aImp_n0 ?_; intro _) | (refine aImp_i ?_; intro _))
    all_goals (try (first | omega | exact bI_01 _ | exact bI_lo _ | exact bI_hi _ | exact bI_hi' _ | exact trivial | exact Or.inl rfl | exact Or.inr rfl | (exfalso; omega)))
    all_goals first
      | exact q (by omega)
      | exact goal _ _ (by omega)
theorem c_sitterAt1 {X : AX} (d : Nat) (sb ss : Nat) (T : TyT) (G : TyG) (L : TyL) (O : TyO) (R : TyR) (P : TyP) (C : TyC) (B D : TyB) (S N : TyS) (t : AH) (row place : Int) {Q : AQ} (hrow : inR row) (hpl : inR place) (hS : kL N) (hG : kW G)
    (h1 : (∀ i, 0 ≤ i → i < N.2.2.2.1 → ¬ atC N G row place (N.2.2.1 i)) → Q (some (iv (-1))) (CH sb ss T G L O R P C B D S N t))
    (h2 : ∀ i, 0 ≤ i → i < N.2.2.2.1 → atC N G row place (N.2.2.1 i) → Q (some (iv (N.2.2.1 i))) (CH sb ss T G L O R P C B D S N t)) :
    AW X (d + 3) 0 0 65 0 (aEntry 65 [rf 45, iv row, iv place, rf 3]) [] (CH sb ss T G L O R P C B D S N t) Q := by
  have hm := hS.1
  refine aw_tree (I0_ok X _) [(true, 49)] [2] rfl ?_
  exact c_sit_loop1 d sb ss T G L O R P C B D S N t row place hrow hpl hS hG h1 h2 N.2.2.2.1.toNat 0 jk jk (by omega) (fun i a b => by push_cast at b; omega)
theorem c_at1 {X : AX} (d : Nat) (sb : Nat) (T : TyT) (G : TyG) (L : TyL) (O : TyO) (R : TyR) (P : TyP) (C : TyC) (B D : TyB) (S N : TyS) (t : AH) (row place : Int) {Q : AQ} (hrow : inR row) (hpl : inR place) (hS : kL N) (hG : kW G)
    (h1 : (∀ i, 0 ≤ i → i < N.2.2.2.1 → ¬ atC N G row place (N.2.2.1 i)) → Q (some (iv (-1))) (CH sb 1 T G L O R P C B D S N t))
    (h2 : ∀ i, 0 ≤ i → i < N.2.2.2.1 → atC N G row place (N.2.2.1 i) → Q (some (iv (N.2.2.1 i))) (CH sb 1 T G L O R P C B D S N t)) :
    AW X (d + 4) 0 0 92 0 (aEntry 92 [rf 0, iv row, iv place]) [] (CH sb 1 T G L O R P C B D S N t) Q := by
  refine aw_tree (I0_ok X _) [(true, 49)] [] rfl ?_
  refine aw_ck0 (c_sitterAt1 _ sb 1 T G L O R P C B D S N t row place hrow hpl hS hG (fun h => ?_) (fun i i0 i1 h => ?_)) rfl
  · refine aw_tree (I0_ok X _) [(true, 49)] [] rfl ?_
    exact h1 h
  · refine aw_tree (I0_ok X _) [(true, 49)] [] rfl ?_
    exact h2 i i0 i1 h
theorem c_pt_loop1 {X : AX} (d : Nat) (sb ss : Nat) (T : TyT) (G : TyG) (L : TyL) (O : TyO) (R : TyR) (P : TyP) (C : TyC) (B D : TyB) (S N : TyS) (t : AH) (row : Int) {Q : AQ} (hrow : inR row) (hS : kL N) (hG : kW G)
    (hQ : Q (some (iv (smN (ptC N G row) N.2.2.2.1.toNat))) (CH sb ss T G L O R P C B D S N t)) :
    ∀ (m k : Nat), k + m = N.2.2.2.1.toNat → AW X (d + 2) 0 0 66 4 [rf 45, iv row, rf 3, iv (smN (ptC N G row) k), iv k] [] (CH sb ss T G L O R P C B D S N t) Q := by
  have hm := hS.1
  unfold inR at hrow
  intro m
  induction m with
  | zero =>
    intro k hk
    have e : k = N.2.2.2.1.toNat := by omega
    rw [← e] at hQ
    refine aw_tree (I0_ok X _) [(true, 49)] [4] rfl ?_
    repeat' (first | refine And.intro ?_ ?_ | (refine aImp_e0 ?_; intro _) | (refine aImp_n0 ?_; intro _) | (refine aImp_i ?_; intro _))
    all_goals (try (first | omega | exact bI_01 _ | exact bI_lo _ | exact bI_hi _ | exact bI_hi' _ | exact trivial | exact Or.inl rfl | exact Or.inr rfl | (exfalso; omega)))
    exact hQ
  | succ m ih =>
    intro k hk
    have hl := hS.2.1 k (by omega) (by omega)
    have hs := hS.2.2 _ hl.1 hl.2
    have hw := (hG _ hl.1 hl.2).1
    have goal := ih (k + 1) (by omega)
    rw [smN] at goal
    by_cases c : N.1 (N.2.2.1 k) = row
    · rw [show ptC N G row k = G.2.2.2.1 (N.2.2.1 k) from cif_t c _ _] at goal
      refine aw_tree (I0_ok X _) [(true, 49)] [4] rfl ?_
      repeat' (first | refine And.intro ?_ ?_ | (refine aImp_e0 ?_; intro _) | (refine aImp_n0 ?_; intro _) | (refine aImp_i ?_; intro _))
      all_goals (try (first | omega | exact bI_01 _ | exact bI_lo _ | exact bI_hi _ | exact bI_hi' _ | exact trivial | exact Or.inl rfl | exact Or.inr rfl | (exfalso; omega)))
      exact goal
    · rw [show ptC N G row k = 0 from cif_f c _ _, Int.add_zero] at goal
      refine aw_tree (I0_ok X _) [(true, 49)] [4] rfl ?_
      repeat' (first | refine And.intro ?_ ?_ | (refine aImp_e0 ?_; intro _) | (refine aImp_n0 ?_; intro _) | (refine aImp_i ?_; intro _))
      all_goals (try (first | omega | exact bI_01 _ | exact bI_lo _ | exact bI_hi _ | exact bI_hi' _ | exact trivial | exact Or.inl rfl | exact Or.inr rfl | (exfalso; omega)))
      exact goal
theorem c_placesTaken1 {X : AX} (d : Nat) (sb ss : Nat) (T : TyT) (G : TyG) (L : TyL) (O : TyO) (R : TyR) (P : TyP) (C : TyC) (B D : TyB) (S N : TyS) (t : AH) (row : Int) (hrow : inR row) (hS : kL N) (hG : kW G) :
    AF X (d + 2) 0 0 66 [rf 45, iv row, rf 3] (CH sb ss T G L O R P C B D S N t) (some (iv (smN (ptC N G row) N.2.2.2.1.toNat))) (CH sb ss T G L O R P C B D S N t) := by
  have hm := hS.1
  refine aw_tree (I0_ok X _) [(true, 49)] [4] rfl ?_
  exact c_pt_loop1 d sb ss T G L O R P C B D S N t row hrow hS hG ⟨rfl, rfl⟩ N.2.2.2.1.toNat 0 (by omega)
theorem h_73 (a : AC49) (b : AC24) (t : AH) (k : Nat) : (CV a (MV b t))[73 + k]? = t[k]? := by
  rw [Nat.add_comm]
  rfl
theorem BH_get : ∀ (β : List TyBn) (p r : Nat) (x : TyBn), β[r]? = some x → (BH p β)[4 * r]? = some (ob 0 [iv x.1, iv x.2.1, iv x.2.2.1, iv x.2.2.2.1, rf (p + 4 * r + 1), rf (p + 4 * r + 2), rf (p + 4 * r + 3)]) := by
  intro β
  induction β with
  | nil => intro p r x h; cases h
  | cons b bs ih =>
    intro p r x h
    cases r with
    | zero => cases h; rfl
    | succ r =>
      have h2 := ih (p + 4) r x h
      rw [show 4 * (r + 1) = 4 * r + 4 from by omega, show p + (4 * r + 4) = p + 4 + 4 * r from by omega]
      exact h2
/-- a bench in the heap -/
theorem bn_at (a : AC49) (b : AC24) (β : List TyBn) (r : Nat) (x : TyBn) (h : β[r]? = some x) : (CV a (MV b (BH 73 β)))[73 + 4 * r]? = some (ob 0 [iv x.1, iv x.2.1, iv x.2.2.1, iv x.2.2.2.1, rf (73 + 4 * r + 1), rf (73 + 4 * r + 2), rf (73 + 4 * r + 3)]) := by
  rw [h_73]
  exact BH_get β 73 r x h
theorem c_spare0 {X : AX} (d : Nat) (sb : Nat) (T : TyT) (G : TyG) (L : TyL) (O : TyO) (R : TyR) (P : TyP) (C : TyC) (B D : TyB) (S N : TyS) (bm : AC24) (β : List TyBn) (row : Int) {Q : AQ} (hrow : inR row) (hS : kL S) (hG : kW G) (hc : 0 ≤ L.2.1 ∧ L.2.1 ≤ 6) (hL : hlB L) (hb : (β.length : Int) = L.2.1) (hrs : 0 ≤ S.2.2.2.2.1 ∧ S.2.2.2.2.1 ≤ L.2.1)
    (h1 : ¬ (0 ≤ row ∧ row < S.2.2.2.2.1) → Q (some (iv (-1))) (CH sb 0 T G L O R P C B D S N (MV bm (BH 73 β))))
    (h2 : ∀ (r : Nat) (x : TyBn), row = r → row < S.2.2.2.2.1 → β[r]? = some x → Q (some (iv (x.2.1 - smN (ptC S G row) S.2.2.2.1.toNat))) (CH sb 0 T G L O R P C B D S N (MV bm (BH 73 β)))) :
    AW X (d + 4) 0 0 93 0 (aEntry 93 [rf 0, iv row]) [] (CH sb 0 T G L O R P C B D S N (MV bm (BH 73 β))) Q := by
  have hrow' := hrow
  unfold inR at hrow'
  refine aw_tree (I0_ok X _) [(true, 49)] [14] rfl ?_
  by_cases hr : 0 ≤ row ∧ row < L.2.1
  · obtain ⟨r, rfl⟩ : ∃ r : Nat, row = r := ⟨row.toNat, by omega⟩
    obtain ⟨x, hx⟩ : ∃ x, β[r]? = some x := ⟨_, List.getElem?_eq_getElem (show r < β.length from by omega)⟩
    refine aw_cf0 (c_benchAt _ sb 0 T G L O R P C B D S N (MV bm (BH 73 β)) r (73 + 4 * r) hr (by omega) (hL r hr.2)) rfl ?_
    refine aw_tree (I0_ok X _) [(true, 49)] [15] rfl ?_
    repeat' (first | refine And.intro ?_ ?_ | (refine aImp_e0 ?_; intro _) | (refine aImp_n0 ?_; intro _) | (refine aImp_i ?_; intro _))
    all_goals (try (first | omega | exact bI_01 _ | exact bI_lo _ | exact bI_hi _ | exact bI_hi' _ | exact trivial | exact Or.inl rfl | exact Or.inr rfl | (exfalso; omega)))
    · refine aw_get rfl (bn_at (CA sb 0 T G L O R P C B D S N) bm β r x hx) rfl ?_
      refine aw_tree (I0_ok X _) [(true, 49)] [] rfl ?_
      refine aw_cf0 (c_placesTaken0 _ sb 0 T G L O R P C B D S N (MV bm (BH 73 β)) r hrow hS hG) rfl ?_
      refine aw_tree (I0_ok X _) [(true, 49)] [] rfl ?_
      exact h2 r x rfl (by omega) hx
    · exact h1 (by omega)
  · refine aw_cf0 (c_benchAt_no _ sb 0 T G L O R P C B D S N (MV bm (BH 73 β)) row hrow hr (by omega)) rfl ?_
    refine aw_tree (I0_ok X _) [(true, 49)] [] rfl ?_
    exact h1 (by omega)
theorem c_spare1 {X : AX} (d : Nat) (sb : Nat) (T : TyT) (G : TyG) (L : TyL) (O : TyO) (R : TyR) (P : TyP) (C : TyC) (B D : TyB) (S N : TyS) (bm : AC24) (β : List TyBn) (row : Int) {Q : AQ} (hrow : inR row) (hS : kL N) (hG : kW G) (hc : 0 ≤ L.2.1 ∧ L.2.1 ≤ 6) (hL : hlB L) (hb : (β.length : Int) = L.2.1) (hrs : 0 ≤ N.2.2.2.2.1 ∧ N.2.2.2.2.1 ≤ L.2.1)
    (h1 : ¬ (0 ≤ row ∧ row < N.2.2.2.2.1) → Q (some (iv (-1))) (CH sb 1 T G L O R P C B D S N (MV bm (BH 73 β))))
    (h2 : ∀ (r : Nat) (x : TyBn), row = r → row < N.2.2.2.2.1 → β[r]? = some x → Q (some (iv (x.2.1 - smN (ptC N G row) N.2.2.2.1.toNat))) (CH sb 1 T G L O R P C B D S N (MV bm (BH 73 β)))) :
    AW X (d + 4) 0 0 93 0 (aEntry 93 [rf 0, iv row]) [] (CH sb 1 T G L O R P C B D S N (MV bm (BH 73 β))) Q := by
  have hrow' := hrow
  unfold inR at hrow'
  refine aw_tree (I0_ok X _) [(true, 49)] [14] rfl ?_
  by_cases hr : 0 ≤ row ∧ row < L.2.1
  · obtain ⟨r, rfl⟩ : ∃ r : Nat, row = r := ⟨row.toNat, by omega⟩
    obtain ⟨x, hx⟩ : ∃ x, β[r]? = some x := ⟨_, List.getElem?_eq_getElem (show r < β.length from by omega)⟩
    refine aw_cf0 (c_benchAt _ sb 1 T G L O R P C B D S N (MV bm (BH 73 β)) r (73 + 4 * r) hr (by omega) (hL r hr.2)) rfl ?_
    refine aw_tree (I0_ok X _) [(true, 49)] [15] rfl ?_
    repeat' (first | refine And.intro ?_ ?_ | (refine aImp_e0 ?_; intro _) | (refine aImp_n0 ?_; intro _) | (refine aImp_i ?_; intro _))
    all_goals (try (first | omega | exact bI_01 _ | exact bI_lo _ | exact bI_hi _ | exact bI_hi' _ | exact trivial | exact Or.inl rfl | exact Or.inr rfl | (exfalso; omega)))
    · refine aw_get rfl (bn_at (CA sb 1 T G L O R P C B D S N) bm β r x hx) rfl ?_
      refine aw_tree (I0_ok X _) [(true, 49)] [] rfl ?_
      refine aw_cf0 (c_placesTaken1 _ sb 1 T G L O R P C B D S N (MV bm (BH 73 β)) r hrow hS hG) rfl ?_
      refine aw_tree (I0_ok X _) [(true, 49)] [] rfl ?_
      exact h2 r x rfl (by omega) hx
    · exact h1 (by omega)
  · refine aw_cf0 (c_benchAt_no _ sb 1 T G L O R P C B D S N (MV bm (BH 73 β)) row hrow hr (by omega)) rfl ?_
    refine aw_tree (I0_ok X _) [(true, 49)] [] rfl ?_
    exact h1 (by omega)

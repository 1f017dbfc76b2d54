/-! ===== the office's reading of words ===== -/
abbrev sc (j : Nat) : AV := .inr (.inr (.inr j))
theorem c_byteT {X : AX} (d : Nat) (sb ss : Nat) (T : TyT) (G : TyG) (L : TyL) (O : TyO) (R : TyR) (P : TyP) (C : TyC) (B D : TyB) (S N : TyS) (t : AH) (tp : FN) (hn : 0 ≤ T.2 ∧ T.2 ≤ 200) (hrt : ∀ i, bAnd (T.1 i) 255 = tp i) (htp : ∀ i, 0 ≤ tp i ∧ tp i ≤ 255) (i : Int) (hi : 0 ≤ i ∧ i < T.2) : AF X (d + 3) 0 0 76 [rf 1, iv i] (CH sb ss T G L O R P C B D S N t) (some (iv (tp i))) (CH sb ss T G L O R P C B D S N t) := by
  have h := c_byteAt (X := X) d sb ss T G L O R P C B D S N t i (by unfold inR; omega) hn
  rw [if_pos hi, hrt] at h
  exact h
theorem c_isWordByte {X : AX} (d : Nat) (h : AH) (b : Int) (hb : inR b) : AF X (d + 2) 0 0 52 [iv b] h (some (iv (bI (97 ≤ b ∧ b ≤ 122)))) h := by
  unfold inR at hb
  refine aw_tree (I0_ok X _) [] [] rfl ?_
  repeat' (first | refine And.intro ?_ ?_ | (refine aImp_e0 ?_; intro _) | (refine aImp_n0 ?_; intro _) | (refine aImp_i ?_; intro _))
  all_goals (try (first | omega | exact bI_01 _ | exact bI_lo _ | exact bI_hi _ | exact bI_hi' _ | exact trivial | exact Or.inl rfl | exact Or.inr rfl | (exfalso; omega)))
  all_goals rfl
theorem c_skip_loop {X : AX} (d : Nat) (sb ss : Nat) (T : TyT) (G : TyG) (L : TyL) (O : TyO) (fk fp due nx0 q im : Int) (P : TyP) (C : TyC) (B D : TyB) (S N : TyS) (t : AH) (tp : FN) {Q : AQ} (hn : 0 ≤ T.2 ∧ T.2 ≤ 200) (hrt : ∀ i, bAnd (T.1 i) 255 = tp i) (htp : ∀ i, 0 ≤ tp i ∧ tp i ≤ 255) :
    ∀ (m : Nat) (p : Int), 0 ≤ p → p ≤ T.2 → (T.2 - p).toNat = m → Q none (CH sb ss T G L O (fk, fp, due, sk tp T.2 p, q, im) P C B D S N t) → AW X (d + 4) 0 0 49 0 [rf 16, rf 1] [] (CH sb ss T G L O (fk, fp, due, p, q, im) P C B D S N t) Q := by
  intro m
  induction m with
  | zero =>
    intro p p0 pn hm hQ
    rw [sk_stop (fun h => by omega)] at hQ
    refine aw_tree (I0_ok X _) [(true, 49)] [0] rfl ?_
    dsimp only
    repeat' (first | refine And.intro ?_ ?_ | (refine aImp_e0 ?_; intro _) | (refine aImp_n0 ?_; intro _) | (refine aImp_i ?_; intro _))
    all_goals (try (first | omega | exact bI_01 _ | exact bI_lo _ | exact bI_hi _ | exact bI_hi' _ | exact trivial | exact Or.inl rfl | exact Or.inr rfl | (exfalso; omega)))
    all_goals exact hQ
  | succ m ih =>
    intro p p0 pn hm hQ
    have ht := htp p
    refine aw_tree (I0_ok X _) [(true, 49)] [0] rfl ?_
    dsimp only
    repeat' (first | refine And.intro ?_ ?_ | (refine aImp_e0 ?_; intro _) | (refine aImp_n0 ?_; intro _) | (refine aImp_i ?_; intro _))
    all_goals (try (first | omega | exact bI_01 _ | exact bI_lo _ | exact bI_hi _ | exact bI_hi' _ | exact trivial | exact Or.inl rfl | exact Or.inr rfl | (exfalso; omega)))
    refine aw_cf0 (c_byteT _ sb ss T G L O (fk, fp, due, p, q, im) P C B D S N t tp hn hrt htp p (by omega)) rfl ?_
    by_cases hb : blk (tp p)
    · rw [sk_step (by omega) hb] at hQ
      unfold blk at hb
      refine aw_tree (I0_ok X _) [(true, 49)] [0] rfl ?_
      dsimp only
      repeat' (first | refine And.intro ?_ ?_ | (refine aImp_e0 ?_; intro _) | (refine aImp_n0 ?_; intro _) | (refine aImp_i ?_; intro _))
      all_goals (try (first | omega | exact bI_01 _ | exact bI_lo _ | exact bI_hi _ | exact bI_hi' _ | exact trivial | exact Or.inl rfl | exact Or.inr rfl | (exfalso; omega)))
      · exact ih (p + 1) (by omega) (by omega) (by omega) hQ
      · refine aw_cf0 (c_byteT _ sb ss T G L O (fk, fp, due, p, q, im) P C B D S N t tp hn hrt htp p (by omega)) rfl ?_
        refine aw_tree (I0_ok X _) [(true, 49)] [0] rfl ?_
        dsimp only
        repeat' (first | refine And.intro ?_ ?_ | (refine aImp_e0 ?_; intro _) | (refine aImp_n0 ?_; intro _) | (refine aImp_i ?_; intro _))
        all_goals (try (first | omega | exact bI_01 _ | exact bI_lo _ | exact bI_hi _ | exact bI_hi' _ | exact trivial | exact Or.inl rfl | exact Or.inr rfl | (exfalso; omega)))
        exact ih (p + 1) (by omega) (by omega) (by omega) hQ
    · rw [sk_stop (fun h => hb h.2)] at hQ
      unfold blk at hb
      refine aw_tree (I0_ok X _) [(true, 49)] [0] rfl ?_
      dsimp only
      repeat' (first | refine And.intro ?_ ?_ | (refine aImp_e0 ?_; intro _) | (refine aImp_n0 ?_; intro _) | (refine aImp_i ?_; intro _))
      all_goals (try (first | omega | exact bI_01 _ | exact bI_lo _ | exact bI_hi _ | exact bI_hi' _ | exact trivial | exact Or.inl rfl | exact Or.inr rfl | (exfalso; omega)))
      refine aw_cf0 (c_byteT _ sb ss T G L O (fk, fp, due, p, q, im) P C B D S N t tp hn hrt htp p (by omega)) rfl ?_
      refine aw_tree (I0_ok X _) [(true, 49)] [0] rfl ?_
      dsimp only
      repeat' (first | refine And.intro ?_ ?_ | (refine aImp_e0 ?_; intro _) | (refine aImp_n0 ?_; intro _) | (refine aImp_i ?_; intro _))
      all_goals (try (first | omega | exact bI_01 _ | exact bI_lo _ | exact bI_hi _ | exact bI_hi' _ | exact trivial | exact Or.inl rfl | exact Or.inr rfl | (exfalso; omega)))
      exact hQ
theorem c_skip {X : AX} (d : Nat) (sb ss : Nat) (T : TyT) (G : TyG) (L : TyL) (O : TyO) (fk fp due nx0 q im : Int) (P : TyP) (C : TyC) (B D : TyB) (S N : TyS) (t : AH) (tp : FN) (hn : 0 ≤ T.2 ∧ T.2 ≤ 200) (hrt : ∀ i, bAnd (T.1 i) 255 = tp i) (htp : ∀ i, 0 ≤ tp i ∧ tp i ≤ 255) (hp : 0 ≤ nx0 ∧ nx0 ≤ T.2) : AF X (d + 4) 0 0 49 [rf 16, rf 1] (CH sb ss T G L O (fk, fp, due, nx0, q, im) P C B D S N t) none (CH sb ss T G L O (fk, fp, due, sk tp T.2 nx0, q, im) P C B D S N t) :=
  c_skip_loop d sb ss T G L O fk fp due nx0 q im P C B D S N t tp hn hrt htp _ nx0 hp.1 hp.2 rfl ⟨rfl, rfl⟩
theorem c_coder {X : AX} (d : Nat) (h : AH) (j : Nat) (hj : (Nat.ble 1 j && Nat.ble j 8) = true) : AF X (d + 2) 0 0 150 [sc j] h (some (iv 0)) h := by
  have : j = 1 ∨ j = 2 ∨ j = 3 ∨ j = 4 ∨ j = 5 ∨ j = 6 ∨ j = 7 ∨ j = 8 := by
    simp only [Bool.and_eq_true] at hj
    have h1 := Nat.le_of_ble_eq_true hj.1
    have h2 := Nat.le_of_ble_eq_true hj.2
    omega
  rcases this with rfl | rfl | rfl | rfl | rfl | rfl | rfl | rfl
  all_goals (
    refine aw_tree (I0_ok X _) [] [] rfl ?_
    repeat' (first | refine And.intro ?_ ?_ | (refine aImp_e0 ?_; intro _) | (refine aImp_n0 ?_; intro _) | (refine aImp_i ?_; intro _))
    all_goals (try (first | omega | exact bI_01 _ | exact bI_lo _ | exact bI_hi _ | exact bI_hi' _ | exact trivial | exact Or.inl rfl | exact Or.inr rfl | (exfalso; omega)))
    all_goals rfl)
theorem c_isLatin1 {X : AX} (d : Nat) (h : AH) (j : Nat) (hj : (Nat.ble 1 j && Nat.ble j 8) = true) : AF X (d + 2) 0 0 151 [sc j] h (some (iv 1)) h := by
  have : j = 1 ∨ j = 2 ∨ j = 3 ∨ j = 4 ∨ j = 5 ∨ j = 6 ∨ j = 7 ∨ j = 8 := by
    simp only [Bool.and_eq_true] at hj
    have h1 := Nat.le_of_ble_eq_true hj.1
    have h2 := Nat.le_of_ble_eq_true hj.2
    omega
  rcases this with rfl | rfl | rfl | rfl | rfl | rfl | rfl | rfl
  all_goals (
    refine aw_tree (I0_ok X _) [] [] rfl ?_
    repeat' (first | refine And.intro ?_ ?_ | (refine aImp_e0 ?_; intro _) | (refine aImp_n0 ?_; intro _) | (refine aImp_i ?_; intro _))
    all_goals (try (first | omega | exact bI_01 _ | exact bI_lo _ | exact bI_hi _ | exact bI_hi' _ | exact trivial | exact Or.inl rfl | exact Or.inr rfl | (exfalso; omega)))
    all_goals rfl)
theorem c_checkIndex {X : AX} (d : Nat) (h : AH) (i n : Int) (hi : 0 ≤ i ∧ i < n ∧ n ≤ 9) : AF X (d + 2) 0 0 155 [iv i, iv n, sc 900] h (some (iv i)) h := by
  refine aw_seg 999 [0, 1] rfl ?_ ?_
  · simp only [inR, aRel, true_and]; omega
  · exact aw_ret rfl rfl trivial ⟨rfl, rfl⟩
theorem c_strCheck {X : AX} (d : Nat) (h : AH) (i n : Int) (hi : 0 ≤ i ∧ i < n ∧ n ≤ 9) : AF X (d + 3) 0 0 152 [iv i, iv n] h none h := by
  refine aw_tree (I0_ok X _) [] [] rfl ?_
  refine aw_cf0 (c_checkIndex (d + 0) h i n hi) rfl ?_
  refine aw_tree (I0_ok X _) [] [] rfl ?_
  exact ⟨rfl, rfl⟩
theorem c_len_by {X : AX} (d : Nat) (h : AH) : AF X (d + 3) 0 0 148 [sc 1] h (some (iv 2)) h := by
  have e : bShr 2 0 = 2 := by decide +kernel
  refine aw_tree (I0_ok X _) [] [] rfl ?_
  refine aw_cf0 (c_coder (d + 0) h 1 rfl) rfl ?_
  refine aw_tree (I0_ok X _) [] [] rfl ?_
  exact ⟨congrArg (fun z => some (iv z)) e, rfl⟩
theorem c_chr_by {X : AX} (d : Nat) (h : AH) (i : Int) (hi : 0 ≤ i ∧ i < 2) : AF X (d + 5) 0 0 149 [sc 1, iv i] h (some (iv (([98, 121] : List Int).getD i.toNat 0))) h := by
  have e : bChar (bAnd (([98, 121] : List Int).getD i.toNat 0) 255) = ([98, 121] : List Int).getD i.toNat 0 := by
    have : i = 0 ∨ i = 1 := by omega
    rcases this with rfl | rfl <;> decide +kernel
  have r : 0 ≤ ([98, 121] : List Int).getD i.toNat 0 ∧ ([98, 121] : List Int).getD i.toNat 0 < 65536 := by
    have : i = 0 ∨ i = 1 := by omega
    rcases this with rfl | rfl <;> decide
  refine aw_tree (I0_ok X _) [] [] rfl ?_
  refine aw_cf0 (c_isLatin1 _ h 1 rfl) rfl ?_
  refine aw_tree (I0_ok X _) [] [] rfl ?_
  repeat' (first | refine And.intro ?_ ?_ | (refine aImp_e0 ?_; intro _) | (refine aImp_n0 ?_; intro _) | (refine aImp_i ?_; intro _))
  all_goals (try (first | omega | exact bI_01 _ | exact bI_lo _ | exact bI_hi _ | exact bI_hi' _ | exact trivial | exact Or.inl rfl | exact Or.inr rfl | (exfalso; omega)))
  have hc : AF X (d + 4) 0 0 153 [sc 100, iv i] h (some (iv (([98, 121] : List Int).getD i.toNat 0))) h := by
    refine aw_tree (I0_ok X _) [] [] rfl ?_
    refine aw_cf0 (c_strCheck (d + 0) h i 2 (by omega)) rfl ?_
    refine aw_tree (I0_ok X _) [] [] rfl ?_
    refine ⟨⟨by omega, by (try dsimp only); exact hi.2, by decide⟩, ?_⟩
    show (0 ≤ bChar (bAnd (([98, 121] : List Int).getD i.toNat 0) 255) ∧ bChar (bAnd (([98, 121] : List Int).getD i.toNat 0) 255) < 65536) ∧ (some (iv (bChar (bAnd (([98, 121] : List Int).getD i.toNat 0) 255))) = some (iv (([98, 121] : List Int).getD i.toNat 0)) ∧ h = h)
    rw [e]
    exact ⟨r, rfl, rfl⟩
  refine aw_cf0 hc rfl ?_
  refine aw_tree (I0_ok X _) [] [] rfl ?_
  exact ⟨r, rfl, rfl⟩
theorem c_len_le {X : AX} (d : Nat) (h : AH) : AF X (d + 3) 0 0 148 [sc 2] h (some (iv 5)) h := by
  have e : bShr 5 0 = 5 := by decide +kernel
  refine aw_tree (I0_ok X _) [] [] rfl ?_
  refine aw_cf0 (c_coder (d + 0) h 2 rfl) rfl ?_
  refine aw_tree (I0_ok X _) [] [] rfl ?_
  exact ⟨congrArg (fun z => some (iv z)) e, rfl⟩
theorem c_chr_le {X : AX} (d : Nat) (h : AH) (i : Int) (hi : 0 ≤ i ∧ i < 5) : AF X (d + 5) 0 0 149 [sc 2, iv i] h (some (iv (([108, 101, 97, 115, 116] : List Int).getD i.toNat 0))) h := by
  have e : bChar (bAnd (([108, 101, 97, 115, 116] : List Int).getD i.toNat 0) 255) = ([108, 101, 97, 115, 116] : List Int).getD i.toNat 0 := by
    have : i = 0 ∨ i = 1 ∨ i = 2 ∨ i = 3 ∨ i = 4 := by omega
    rcases this with rfl | rfl | rfl | rfl | rfl <;> decide +kernel
  have r : 0 ≤ ([108, 101, 97, 115, 116] : List Int).getD i.toNat 0 ∧ ([108, 101, 97, 115, 116] : List Int).getD i.toNat 0 < 65536 := by
    have : i = 0 ∨ i = 1 ∨ i = 2 ∨ i = 3 ∨ i = 4 := by omega
    rcases this with rfl | rfl | rfl | rfl | rfl <;> decide
  refine aw_tree (I0_ok X _) [] [] rfl ?_
  refine aw_cf0 (c_isLatin1 _ h 2 rfl) rfl ?_
  refine aw_tree (I0_ok X _) [] [] rfl ?_
  repeat' (first | refine And.intro ?_ ?_ | (refine aImp_e0 ?_; intro _) | (refine aImp_n0 ?_; intro _) | (refine aImp_i ?_; intro _))
  all_goals (try (first | omega | exact bI_01 _ | exact bI_lo _ | exact bI_hi _ | exact bI_hi' _ | exact trivial | exact Or.inl rfl | exact Or.inr rfl | (exfalso; omega)))
  have hc : AF X (d + 4) 0 0 153 [sc 101, iv i] h (some (iv (([108, 101, 97, 115, 116] : List Int).getD i.toNat 0))) h := by
    refine aw_tree (I0_ok X _) [] [] rfl ?_
    refine aw_cf0 (c_strCheck (d + 0) h i 5 (by omega)) rfl ?_
    refine aw_tree (I0_ok X _) [] [] rfl ?_
    refine ⟨⟨by omega, by (try dsimp only); exact hi.2, by decide⟩, ?_⟩
    show (0 ≤ bChar (bAnd (([108, 101, 97, 115, 116] : List Int).getD i.toNat 0) 255) ∧ bChar (bAnd (([108, 101, 97, 115, 116] : List Int).getD i.toNat 0) 255) < 65536) ∧ (some (iv (bChar (bAnd (([108, 101, 97, 115, 116] : List Int).getD i.toNat 0) 255))) = some (iv (([108, 101, 97, 115, 116] : List Int).getD i.toNat 0)) ∧ h = h)
    rw [e]
    exact ⟨r, rfl, rfl⟩
  refine aw_cf0 hc rfl ?_
  refine aw_tree (I0_ok X _) [] [] rfl ?_
  exact ⟨r, rfl, rfl⟩
theorem c_len_mo {X : AX} (d : Nat) (h : AH) : AF X (d + 3) 0 0 148 [sc 3] h (some (iv 4)) h := by
  have e : bShr 4 0 = 4 := by decide +kernel
  refine aw_tree (I0_ok X _) [] [] rfl ?_
  refine aw_cf0 (c_coder (d + 0) h 3 rfl) rfl ?_
  refine aw_tree (I0_ok X _) [] [] rfl ?_
  exact ⟨congrArg (fun z => some (iv z)) e, rfl⟩
theorem c_chr_mo {X : AX} (d : Nat) (h : AH) (i : Int) (hi : 0 ≤ i ∧ i < 4) : AF X (d + 5) 0 0 149 [sc 3, iv i] h (some (iv (([109, 111, 115, 116] : List Int).getD i.toNat 0))) h := by
  have e : bChar (bAnd (([109, 111, 115, 116] : List Int).getD i.toNat 0) 255) = ([109, 111, 115, 116] : List Int).getD i.toNat 0 := by
    have : i = 0 ∨ i = 1 ∨ i = 2 ∨ i = 3 := by omega
    rcases this with rfl | rfl | rfl | rfl <;> decide +kernel
  have r : 0 ≤ ([109, 111, 115, 116] : List Int).getD i.toNat 0 ∧ ([109, 111, 115, 116] : List Int).getD i.toNat 0 < 65536 := by
    have : i = 0 ∨ i = 1 ∨ i = 2 ∨ i = 3 := by omega
    rcases this with rfl | rfl | rfl | rfl <;> decide
  refine aw_tree (I0_ok X _) [] [] rfl ?_
  refine aw_cf0 (c_isLatin1 _ h 3 rfl) rfl ?_
  refine aw_tree (I0_ok X _) [] [] rfl ?_
  repeat' (first | refine And.intro ?_ ?_ | (refine aImp_e0 ?_; intro _) | (refine aImp_n0 ?_; intro _) | (refine aImp_i ?_; intro _))
  all_goals (try (first | omega | exact bI_01 _ | exact bI_lo _ | exact bI_hi _ | exact bI_hi' _ | exact trivial | exact Or.inl rfl | exact Or.inr rfl | (exfalso; omega)))
  have hc : AF X (d + 4) 0 0 153 [sc 102, iv i] h (some (iv (([109, 111, 115, 116] : List Int).getD i.toNat 0))) h := by
    refine aw_tree (I0_ok X _) [] [] rfl ?_
    refine aw_cf0 (c_strCheck (d + 0) h i 4 (by omega)) rfl ?_
    refine aw_tree (I0_ok X _) [] [] rfl ?_
    refine ⟨⟨by omega, by (try dsimp only); exact hi.2, by decide⟩, ?_⟩
    show (0 ≤ bChar (bAnd (([109, 111, 115, 116] : List Int).getD i.toNat 0) 255) ∧ bChar (bAnd (([109, 111, 115, 116] : List Int).getD i.toNat 0) 255) < 65536) ∧ (some (iv (bChar (bAnd (([109, 111, 115, 116] : List Int).getD i.toNat 0) 255))) = some (iv (([109, 111, 115, 116] : List Int).getD i.toNat 0)) ∧ h = h)
    rw [e]
    exact ⟨r, rfl, rfl⟩
  refine aw_cf0 hc rfl ?_
  refine aw_tree (I0_ok X _) [] [] rfl ?_
  exact ⟨r, rfl, rfl⟩
theorem c_len_da {X : AX} (d : Nat) (h : AH) : AF X (d + 3) 0 0 148 [sc 4] h (some (iv 4)) h := by
  have e : bShr 4 0 = 4 := by decide +kernel
  refine aw_tree (I0_ok X _) [] [] rfl ?_
  refine aw_cf0 (c_coder (d + 0) h 4 rfl) rfl ?_
  refine aw_tree (I0_ok X _) [] [] rfl ?_
  exact ⟨congrArg (fun z => some (iv z)) e, rfl⟩
theorem c_chr_da {X : AX} (d : Nat) (h : AH) (i : Int) (hi : 0 ≤ i ∧ i < 4) : AF X (d + 5) 0 0 149 [sc 4, iv i] h (some (iv (([100, 97, 116, 101] : List Int).getD i.toNat 0))) h := by
  have e : bChar (bAnd (([100, 97, 116, 101] : List Int).getD i.toNat 0) 255) = ([100, 97, 116, 101] : List Int).getD i.toNat 0 := by
    have : i = 0 ∨ i = 1 ∨ i = 2 ∨ i = 3 := by omega
    rcases this with rfl | rfl | rfl | rfl <;> decide +kernel
  have r : 0 ≤ ([100, 97, 116, 101] : List Int).getD i.toNat 0 ∧ ([100, 97, 116, 101] : List Int).getD i.toNat 0 < 65536 := by
    have : i = 0 ∨ i = 1 ∨ i = 2 ∨ i = 3 := by omega
    rcases this with rfl | rfl | rfl | rfl <;> decide
  refine aw_tree (I0_ok X _) [] [] rfl ?_
  refine aw_cf0 (c_isLatin1 _ h 4 rfl) rfl ?_
  refine aw_tree (I0_ok X _) [] [] rfl ?_
  repeat' (first | refine And.intro ?_ ?_ | (refine aImp_e0 ?_; intro _) | (refine aImp_n0 ?_; intro _) | (refine aImp_i ?_; intro _))
  all_goals (try (first | omega | exact bI_01 _ | exact bI_lo _ | exact bI_hi _ | exact bI_hi' _ | exact trivial | exact Or.inl rfl | exact Or.inr rfl | (exfalso; omega)))
  have hc : AF X (d + 4) 0 0 153 [sc 103, iv i] h (some (iv (([100, 97, 116, 101] : List Int).getD i.toNat 0))) h := by
    refine aw_tree (I0_ok X _) [] [] rfl ?_
    refine aw_cf0 (c_strCheck (d + 0) h i 4 (by omega)) rfl ?_
    refine aw_tree (I0_ok X _) [] [] rfl ?_
    refine ⟨⟨by omega, by (try dsimp only); exact hi.2, by decide⟩, ?_⟩
    show (0 ≤ bChar (bAnd (([100, 97, 116, 101] : List Int).getD i.toNat 0) 255) ∧ bChar (bAnd (([100, 97, 116, 101] : List Int).getD i.toNat 0) 255) < 65536) ∧ (some (iv (bChar (bAnd (([100, 97, 116, 101] : List Int).getD i.toNat 0) 255))) = some (iv (([100, 97, 116, 101] : List Int).getD i.toNat 0)) ∧ h = h)
    rw [e]
    exact ⟨r, rfl, rfl⟩
  refine aw_cf0 hc rfl ?_
  refine aw_tree (I0_ok X _) [] [] rfl ?_
  exact ⟨r, rfl, rfl⟩
theorem c_len_ag {X : AX} (d : Nat) (h : AH) : AF X (d + 3) 0 0 148 [sc 5] h (some (iv 3)) h := by
  have e : bShr 3 0 = 3 := by decide +kernel
  refine aw_tree (I0_ok X _) [] [] rfl ?_
  refine aw_cf0 (c_coder (d + 0) h 5 rfl) rfl ?_
  refine aw_tree (I0_ok X _) [] [] rfl ?_
  exact ⟨congrArg (fun z => some (iv z)) e, rfl⟩
theorem c_chr_ag {X : AX} (d : Nat) (h : AH) (i : Int) (hi : 0 ≤ i ∧ i < 3) : AF X (d + 5) 0 0 149 [sc 5, iv i] h (some (iv (([97, 103, 101] : List Int).getD i.toNat 0))) h := by
  have e : bChar (bAnd (([97, 103, 101] : List Int).getD i.toNat 0) 255) = ([97, 103, 101] : List Int).getD i.toNat 0 := by
    have : i = 0 ∨ i = 1 ∨ i = 2 := by omega
    rcases this with rfl | rfl | rfl <;> decide +kernel
  have r : 0 ≤ ([97, 103, 101] : List Int).getD i.toNat 0 ∧ ([97, 103, 101] : List Int).getD i.toNat 0 < 65536 := by
    have : i = 0 ∨ i = 1 ∨ i = 2 := by omega
    rcases this with rfl | rfl | rfl <;> decide
  refine aw_tree (I0_ok X _) [] [] rfl ?_
  refine aw_cf0 (c_isLatin1 _ h 5 rfl) rfl ?_
  refine aw_tree (I0_ok X _) [] [] rfl ?_
  repeat' (first | refine And.intro ?_ ?_ | (refine aImp_e0 ?_; intro _) | (refine aImp_n0 ?_; intro _) | (refine aImp_i ?_; intro _))
  all_goals (try (first | omega | exact bI_01 _ | exact bI_lo _ | exact bI_hi _ | exact bI_hi' _ | exact trivial | exact Or.inl rfl | exact Or.inr rfl | (exfalso; omega)))
  have hc : AF X (d + 4) 0 0 153 [sc 104, iv i] h (some (iv (([97, 103, 101] : List Int).getD i.toNat 0))) h := by
    refine aw_tree (I0_ok X _) [] [] rfl ?_
    refine aw_cf0 (c_strCheck (d + 0) h i 3 (by omega)) rfl ?_
    refine aw_tree (I0_ok X _) [] [] rfl ?_
    refine ⟨⟨by omega, by (try dsimp only); exact hi.2, by decide⟩, ?_⟩
    show (0 ≤ bChar (bAnd (([97, 103, 101] : List Int).getD i.toNat 0) 255) ∧ bChar (bAnd (([97, 103, 101] : List Int).getD i.toNat 0) 255) < 65536) ∧ (some (iv (bChar (bAnd (([97, 103, 101] : List Int).getD i.toNat 0) 255))) = some (iv (([97, 103, 101] : List Int).getD i.toNat 0)) ∧ h = h)
    rw [e]
    exact ⟨r, rfl, rfl⟩
  refine aw_cf0 hc rfl ?_
  refine aw_tree (I0_ok X _) [] [] rfl ?_
  exact ⟨r, rfl, rfl⟩
theorem c_len_wo {X : AX} (d : Nat) (h : AH) : AF X (d + 3) 0 0 148 [sc 6] h (some (iv 5)) h := by
  have e : bShr 5 0 = 5 := by decide +kernel
  refine aw_tree (I0_ok X _) [] [] rfl ?_
  refine aw_cf0 (c_coder (d + 0) h 6 rfl) rfl ?_
  refine aw_tree (I0_ok X _) [] [] rfl ?_
  exact ⟨congrArg (fun z => some (iv z)) e, rfl⟩
theorem c_chr_wo {X : AX} (d : Nat) (h : AH) (i : Int) (hi : 0 ≤ i ∧ i < 5) : AF X (d + 5) 0 0 149 [sc 6, iv i] h (some (iv (([119, 111, 114, 116, 104] : List Int).getD i.toNat 0))) h := by
  have e : bChar (bAnd (([119, 111, 114, 116, 104] : List Int).getD i.toNat 0) 255) = ([119, 111, 114, 116, 104] : List Int).getD i.toNat 0 := by
    have : i = 0 ∨ i = 1 ∨ i = 2 ∨ i = 3 ∨ i = 4 := by omega
    rcases this with rfl | rfl | rfl | rfl | rfl <;> decide +kernel
  have r : 0 ≤ ([119, 111, 114, 116, 104] : List Int).getD i.toNat 0 ∧ ([119, 111, 114, 116, 104] : List Int).getD i.toNat 0 < 65536 := by
    have : i = 0 ∨ i = 1 ∨ i = 2 ∨ i = 3 ∨ i = 4 := by omega
    rcases this with rfl | rfl | rfl | rfl | rfl <;> decide
  refine aw_tree (I0_ok X _) [] [] rfl ?_
  refine aw_cf0 (c_isLatin1 _ h 6 rfl) rfl ?_
  refine aw_tree (I0_ok X _) [] [] rfl ?_
  repeat' (first | refine And.intro ?_ ?_ | (refine aImp_e0 ?_; intro _) | (refine aImp_n0 ?_; intro _) | (refine aImp_i ?_; intro _))
  all_goals (try (first | omega | exact bI_01 _ | exact bI_lo _ | exact bI_hi _ | exact bI_hi' _ | exact trivial | exact Or.inl rfl | exact Or.inr rfl | (exfalso; omega)))
  have hc : AF X (d + 4) 0 0 153 [sc 105, iv i] h (some (iv (([119, 111, 114, 116, 104] : List Int).getD i.toNat 0))) h := by
    refine aw_tree (I0_ok X _) [] [] rfl ?_
    refine aw_cf0 (c_strCheck (d + 0) h i 5 (by omega)) rfl ?_
    refine aw_tree (I0_ok X _) [] [] rfl ?_
    refine ⟨⟨by omega, by (try dsimp only); exact hi.2, by decide⟩, ?_⟩
    show (0 ≤ bChar (bAnd (([119, 111, 114, 116, 104] : List Int).getD i.toNat 0) 255) ∧ bChar (bAnd (([119, 111, 114, 116, 104] : List Int).getD i.toNat 0) 255) < 65536) ∧ (some (iv (bChar (bAnd (([119, 111, 114, 116, 104] : List Int).getD i.toNat 0) 255))) = some (iv (([119, 111, 114, 116, 104] : List Int).getD i.toNat 0)) ∧ h = h)
    rw [e]
    exact ⟨r, rfl, rfl⟩
  refine aw_cf0 hc rfl ?_
  refine aw_tree (I0_ok X _) [] [] rfl ?_
  exact ⟨r, rfl, rfl⟩
theorem c_len_wi {X : AX} (d : Nat) (h : AH) : AF X (d + 3) 0 0 148 [sc 7] h (some (iv 5)) h := by
  have e : bShr 5 0 = 5 := by decide +kernel
  refine aw_tree (I0_ok X _) [] [] rfl ?_
  refine aw_cf0 (c_coder (d + 0) h 7 rfl) rfl ?_
  refine aw_tree (I0_ok X _) [] [] rfl ?_
  exact ⟨congrArg (fun z => some (iv z)) e, rfl⟩
theorem c_chr_wi {X : AX} (d : Nat) (h : AH) (i : Int) (hi : 0 ≤ i ∧ i < 5) : AF X (d + 5) 0 0 149 [sc 7, iv i] h (some (iv (([119, 105, 100, 116, 104] : List Int).getD i.toNat 0))) h := by
  have e : bChar (bAnd (([119, 105, 100, 116, 104] : List Int).getD i.toNat 0) 255) = ([119, 105, 100, 116, 104] : List Int).getD i.toNat 0 := by
    have : i = 0 ∨ i = 1 ∨ i = 2 ∨ i = 3 ∨ i = 4 := by omega
    rcases this with rfl | rfl | rfl | rfl | rfl <;> decide +kernel
  have r : 0 ≤ ([119, 105, 100, 116, 104] : List Int).getD i.toNat 0 ∧ ([119, 105, 100, 116, 104] : List Int).getD i.toNat 0 < 65536 := by
    have : i = 0 ∨ i = 1 ∨ i = 2 ∨ i = 3 ∨ i = 4 := by omega
    rcases this with rfl | rfl | rfl | rfl | rfl <;> decide
  refine aw_tree (I0_ok X _) [] [] rfl ?_
  refine aw_cf0 (c_isLatin1 _ h 7 rfl) rfl ?_
  refine aw_tree (I0_ok X _) [] [] rfl ?_
  repeat' (first | refine And.intro ?_ ?_ | (refine aImp_e0 ?_; intro _) | (refine aImp_n0 ?_; intro _) | (refine aImp_i ?_; intro _))
  all_goals (try (first | omega | exact bI_01 _ | exact bI_lo _ | exact bI_hi _ | exact bI_hi' _ | exact trivial | exact Or.inl rfl | exact Or.inr rfl | (exfalso; omega)))
  have hc : AF X (d + 4) 0 0 153 [sc 106, iv i] h (some (iv (([119, 105, 100, 116, 104] : List Int).getD i.toNat 0))) h := by
    refine aw_tree (I0_ok X _) [] [] rfl ?_
    refine aw_cf0 (c_strCheck (d + 0) h i 5 (by omega)) rfl ?_
    refine aw_tree (I0_ok X _) [] [] rfl ?_
    refine ⟨⟨by omega, by (try dsimp only); exact hi.2, by decide⟩, ?_⟩
    show (0 ≤ bChar (bAnd (([119, 105, 100, 116, 104] : List Int).getD i.toNat 0) 255) ∧ bChar (bAnd (([119, 105, 100, 116, 104] : List Int).getD i.toNat 0) 255) < 65536) ∧ (some (iv (bChar (bAnd (([119, 105, 100, 116, 104] : List Int).getD i.toNat 0) 255))) = some (iv (([119, 105, 100, 116, 104] : List Int).getD i.toNat 0)) ∧ h = h)
    rw [e]
    exact ⟨r, rfl, rfl⟩
  refine aw_cf0 hc rfl ?_
  refine aw_tree (I0_ok X _) [] [] rfl ?_
  exact ⟨r, rfl, rfl⟩
theorem c_len_ey {X : AX} (d : Nat) (h : AH) : AF X (d + 3) 0 0 148 [sc 8] h (some (iv 3)) h := by
  have e : bShr 3 0 = 3 := by decide +kernel
  refine aw_tree (I0_ok X _) [] [] rfl ?_
  refine aw_cf0 (c_coder (d + 0) h 8 rfl) rfl ?_
  refine aw_tree (I0_ok X _) [] [] rfl ?_
  exact ⟨congrArg (fun z => some (iv z)) e, rfl⟩
theorem c_chr_ey {X : AX} (d : Nat) (h : AH) (i : Int) (hi : 0 ≤ i ∧ i < 3) : AF X (d + 5) 0 0 149 [sc 8, iv i] h (some (iv (([101, 121, 101] : List Int).getD i.toNat 0))) h := by
  have e : bChar (bAnd (([101, 121, 101] : List Int).getD i.toNat 0) 255) = ([101, 121, 101] : List Int).getD i.toNat 0 := by
    have : i = 0 ∨ i = 1 ∨ i = 2 := by omega
    rcases this with rfl | rfl | rfl <;> decide +kernel
  have r : 0 ≤ ([101, 121, 101] : List Int).getD i.toNat 0 ∧ ([101, 121, 101] : List Int).getD i.toNat 0 < 65536 := by
    have : i = 0 ∨ i = 1 ∨ i = 2 := by omega
    rcases this with rfl | rfl | rfl <;> decide
  refine aw_tree (I0_ok X _) [] [] rfl ?_
  refine aw_cf0 (c_isLatin1 _ h 8 rfl) rfl ?_
  refine aw_tree (I0_ok X _) [] [] rfl ?_
  repeat' (first | refine And.intro ?_ ?_ | (refine aImp_e0 ?_; intro _) | (refine aImp_n0 ?_; intro _) | (refine aImp_i ?_; intro _))
  all_goals (try (first | omega | exact bI_01 _ | exact bI_lo _ | exact bI_hi _ | exact bI_hi' _ | exact trivial | exact Or.inl rfl | exact Or.inr rfl | (exfalso; omega)))
  have hc : AF X (d + 4) 0 0 153 [sc 107, iv i] h (some (iv (([101, 121, 101] : List Int).getD i.toNat 0))) h := by
    refine aw_tree (I0_ok X _) [] [] rfl ?_
    refine aw_cf0 (c_strCheck (d + 0) h i 3 (by omega)) rfl ?_
    refine aw_tree (I0_ok X _) [] [] rfl ?_
    refine ⟨⟨by omega, by (try dsimp only); exact hi.2, by decide⟩, ?_⟩
    show (0 ≤ bChar (bAnd (([101, 121, 101] : List Int).getD i.toNat 0) 255) ∧ bChar (bAnd (([101, 121, 101] : List Int).getD i.toNat 0) 255) < 65536) ∧ (some (iv (bChar (bAnd (([101, 121, 101] : List Int).getD i.toNat 0) 255))) = some (iv (([101, 121, 101] : List Int).getD i.toNat 0)) ∧ h = h)
    rw [e]
    exact ⟨r, rfl, rfl⟩
  refine aw_cf0 hc rfl ?_
  refine aw_tree (I0_ok X _) [] [] rfl ?_
  exact ⟨r, rfl, rfl⟩
theorem c_wd_loop {X : AX} (d : Nat) (sb ss : Nat) (T : TyT) (G : TyG) (L : TyL) (O : TyO) (fk fp due nx0 q im : Int) (P : TyP) (C : TyC) (B D : TyB) (S N : TyS) (t : AH) (tp : FN) {Q : AQ} (hn : 0 ≤ T.2 ∧ T.2 ≤ 200) (hrt : ∀ i, bAnd (T.1 i) 255 = tp i) (htp : ∀ i, 0 ≤ tp i ∧ tp i ≤ 255) (j : Nat) (l : Int) (b : FN) (hj : (Nat.ble 1 j && Nat.ble j 8) = true) (hl : 1 ≤ l ∧ l ≤ 5) (hlen : ∀ (d : Nat) (h : AH), AF X (d + 3) 0 0 148 [sc j] h (some (iv l)) h) (hchr : ∀ (d : Nat) (h : AH) (i : Int), 0 ≤ i ∧ i < l → AF X (d + 5) 0 0 149 [sc j, iv i] h (some (iv (b i))) h) (hb : ∀ i, 0 ≤ i → i < l → 0 ≤ b i ∧ b i ≤ 255) (hq : 0 ≤ q ∧ q + l ≤ T.2)
    (h1 : (∀ i, 0 ≤ i → i < l → tp (q + i) = b i) → Q (some (iv 1)) (CH sb ss T G L O (fk, fp, due, nx0, q, im) P C B D S N t)) (h0 : ¬ (∀ i, 0 ≤ i → i < l → tp (q + i) = b i) → Q (some (iv 0)) (CH sb ss T G L O (fk, fp, due, nx0, q, im) P C B D S N t)) :
    ∀ (m : Nat) (k : Int), k + m = l → 0 ≤ k → (∀ i, 0 ≤ i → i < k → tp (q + i) = b i) → AW X (d + 6) 0 0 51 12 [rf 16, rf 1, sc j, iv k] [] (CH sb ss T G L O (fk, fp, due, nx0, q, im) P C B D S N t) Q := by
  have hj8 : j = 1 ∨ j = 2 ∨ j = 3 ∨ j = 4 ∨ j = 5 ∨ j = 6 ∨ j = 7 ∨ j = 8 := by
    simp only [Bool.and_eq_true] at hj
    have h1 := Nat.le_of_ble_eq_true hj.1
    have h2 := Nat.le_of_ble_eq_true hj.2
    omega
  intro m
  induction m with
  | zero =>
    intro k hk k0 hi
    have goal := h1 (fun i i0 i1 => hi i i0 (by omega))
    rcases hj8 with rfl | rfl | rfl | rfl | rfl | rfl | rfl | rfl
    all_goals (
      refine aw_tree (I0_ok X _) [(true, 49)] [12] rfl ?_
      refine aw_cf0 (hlen _ _) rfl ?_
      refine aw_tree (I0_ok X _) [(true, 49)] [12] rfl ?_
      dsimp only
      repeat' (first | refine And.intro ?_ ?_ | (refine aImp_e0 ?_; intro _) | (refine aImp_n0 ?_; intro _) | (refine aImp_i ?_; intro _))
      all_goals (try (first | omega | exact bI_01 _ | exact bI_lo _ | exact bI_hi _ | exact bI_hi' _ | exact trivial | exact Or.inl rfl | exact Or.inr rfl | (exfalso; omega)))
      exact goal)
  | succ m ih =>
    intro k hk k0 hi
    have hrk := htp (q + k)
    have hbk := hb k k0 (by omega)
    rcases hj8 with rfl | rfl | rfl | rfl | rfl | rfl | rfl | rfl
    all_goals (
      refine aw_tree (I0_ok X _) [(true, 49)] [12] rfl ?_
      refine aw_cf0 (hlen _ _) rfl ?_
      refine aw_tree (I0_ok X _) [(true, 49)] [12] rfl ?_
      dsimp only
      repeat' (first | refine And.intro ?_ ?_ | (refine aImp_e0 ?_; intro _) | (refine aImp_n0 ?_; intro _) | (refine aImp_i ?_; intro _))
      all_goals (try (first | omega | exact bI_01 _ | exact bI_lo _ | exact bI_hi _ | exact bI_hi' _ | exact trivial | exact Or.inl rfl | exact Or.inr rfl | (exfalso; omega)))
      refine aw_cf0 (c_byteT _ sb ss T G L O (fk, fp, due, nx0, q, im) P C B D S N t tp hn hrt htp (q + k) (by omega)) rfl ?_
      refine aw_tree (I0_ok X _) [(true, 49)] [12] rfl ?_
      refine aw_cf0 (hchr _ _ k (by omega)) rfl ?_
      refine aw_tree (I0_ok X _) [(true, 49)] [12] rfl ?_
      dsimp only
      repeat' (first | refine And.intro ?_ ?_ | (refine aImp_e0 ?_; intro _) | (refine aImp_n0 ?_; intro _) | (refine aImp_i ?_; intro _))
      all_goals (try (first | omega | exact bI_01 _ | exact bI_lo _ | exact bI_hi _ | exact bI_hi' _ | exact trivial | exact Or.inl rfl | exact Or.inr rfl | (exfalso; omega)))
      · next he =>
        refine ih (k + 1) (by omega) (by omega) (fun i i0 i1 => ?_)
        by_cases h : i = k
        · rw [h]; exact he
        · exact hi i i0 (by omega)
      · next he => exact h0 (fun h => he (h k k0 (by omega))))
theorem c_isWord_by {X : AX} (d : Nat) (sb ss : Nat) (T : TyT) (G : TyG) (L : TyL) (O : TyO) (fk fp due nx0 q im : Int) (P : TyP) (C : TyC) (B D : TyB) (S N : TyS) (t : AH) (tp : FN) {Q : AQ} (hn : 0 ≤ T.2 ∧ T.2 ≤ 200) (hrt : ∀ i, bAnd (T.1 i) 255 = tp i) (htp : ∀ i, 0 ≤ tp i ∧ tp i ≤ 255) (hq : 0 ≤ q ∧ nx0 ≤ T.2) (hw : nx0 = q + wl tp T.2 q) (h1 : Wby tp T.2 q → Q (some (iv 1)) (CH sb ss T G L O (fk, fp, due, nx0, q, im) P C B D S N t)) (h0 : ¬ Wby tp T.2 q → Q (some (iv 0)) (CH sb ss T G L O (fk, fp, due, nx0, q, im) P C B D S N t)) :
    AW X (d + 6) 0 0 51 0 (aEntry 51 [rf 16, rf 1, sc 1]) [] (CH sb ss T G L O (fk, fp, due, nx0, q, im) P C B D S N t) Q := by
  have hwl := (wl_ok (tp := tp) (n := T.2) _ q rfl).1
  refine aw_tree (I0_ok X _) [(true, 49)] [12] rfl ?_
  refine aw_cf0 (c_len_by _ _) rfl ?_
  refine aw_tree (I0_ok X _) [(true, 49)] [12] rfl ?_
  dsimp only
  repeat' (first | refine And.intro ?_ ?_ | (refine aImp_e0 ?_; intro _) | (refine aImp_n0 ?_; intro _) | (refine aImp_i ?_; intro _))
  all_goals (try (first | omega | exact bI_01 _ | exact bI_lo _ | exact bI_hi _ | exact bI_hi' _ | exact trivial | exact Or.inl rfl | exact Or.inr rfl | (exfalso; omega)))
  · next hl =>
    refine c_wd_loop d sb ss T G L O fk fp due nx0 q im P C B D S N t tp hn hrt htp 1 2 (fun i => ([98, 121] : List Int).getD i.toNat 0) rfl (by omega) (fun d h => c_len_by d h) (fun d h i hi => c_chr_by d h i hi) (fun i i0 i1 => ?_) (by omega) (fun hy => ?_) (fun hy => ?_) 2 0 (by omega) (by omega) (fun i i0 i1 => by omega)
    · have : i = 0 ∨ i = 1 := by omega
      rcases this with rfl | rfl <;> decide
    · refine h1 ⟨by omega, ?_⟩
      have y0 : tp (q + 0) = 98 := hy 0 (by omega) (by omega)
      have y1 : tp (q + 1) = 121 := hy 1 (by omega) (by omega)
      rw [Int.add_zero] at y0
      exact ⟨y0, y1⟩
    · refine h0 (fun hw' => hy (fun i i0 i1 => ?_))
      obtain ⟨_, y0, y1⟩ := hw'
      have : i = 0 ∨ i = 1 := by omega
      rcases this with rfl | rfl
      · rw [Int.add_zero]; exact y0
      · exact y1
  · exact h0 (fun h => by have := h.1; omega)
theorem c_isWord_le {X : AX} (d : Nat) (sb ss : Nat) (T : TyT) (G : TyG) (L : TyL) (O : TyO) (fk fp due nx0 q im : Int) (P : TyP) (C : TyC) (B D : TyB) (S N : TyS) (t : AH) (tp : FN) {Q : AQ} (hn : 0 ≤ T.2 ∧ T.2 ≤ 200) (hrt : ∀ i, bAnd (T.1 i) 255 = tp i) (htp : ∀ i, 0 ≤ tp i ∧ tp i ≤ 255) (hq : 0 ≤ q ∧ nx0 ≤ T.2) (hw : nx0 = q + wl tp T.2 q) (h1 : Wle tp T.2 q → Q (some (iv 1)) (CH sb ss T G L O (fk, fp, due, nx0, q, im) P C B D S N t)) (h0 : ¬ Wle tp T.2 q → Q (some (iv 0)) (CH sb ss T G L O (fk, fp, due, nx0, q, im) P C B D S N t)) :
    AW X (d + 6) 0 0 51 0 (aEntry 51 [rf 16, rf 1, sc 2]) [] (CH sb ss T G L O (fk, fp, due, nx0, q, im) P C B D S N t) Q := by
  have hwl := (wl_ok (tp := tp) (n := T.2) _ q rfl).1
  refine aw_tree (I0_ok X _) [(true, 49)] [12] rfl ?_
  refine aw_cf0 (c_len_le _ _) rfl ?_
  refine aw_tree (I0_ok X _) [(true, 49)] [12] rfl ?_
  dsimp only
  repeat' (first | refine And.intro ?_ ?_ | (refine aImp_e0 ?_; intro _) | (refine aImp_n0 ?_; intro _) | (refine aImp_i ?_; intro _))
  all_goals (try (first | omega | exact bI_01 _ | exact bI_lo _ | exact bI_hi _ | exact bI_hi' _ | exact trivial | exact Or.inl rfl | exact Or.inr rfl | (exfalso; omega)))
  · next hl =>
    refine c_wd_loop d sb ss T G L O fk fp due nx0 q im P C B D S N t tp hn hrt htp 2 5 (fun i => ([108, 101, 97, 115, 116] : List Int).getD i.toNat 0) rfl (by omega) (fun d h => c_len_le d h) (fun d h i hi => c_chr_le d h i hi) (fun i i0 i1 => ?_) (by omega) (fun hy => ?_) (fun hy => ?_) 5 0 (by omega) (by omega) (fun i i0 i1 => by omega)
    · have : i = 0 ∨ i = 1 ∨ i = 2 ∨ i = 3 ∨ i = 4 := by omega
      rcases this with rfl | rfl | rfl | rfl | rfl <;> decide
    · refine h1 ⟨by omega, ?_⟩
      have y0 : tp (q + 0) = 108 := hy 0 (by omega) (by omega)
      have y1 : tp (q + 1) = 101 := hy 1 (by omega) (by omega)
      have y2 : tp (q + 2) = 97 := hy 2 (by omega) (by omega)
      have y3 : tp (q + 3) = 115 := hy 3 (by omega) (by omega)
      have y4 : tp (q + 4) = 116 := hy 4 (by omega) (by omega)
      rw [Int.add_zero] at y0
      exact ⟨y0, y1, y2, y3, y4⟩
    · refine h0 (fun hw' => hy (fun i i0 i1 => ?_))
      obtain ⟨_, y0, y1, y2, y3, y4⟩ := hw'
      have : i = 0 ∨ i = 1 ∨ i = 2 ∨ i = 3 ∨ i = 4 := by omega
      rcases this with rfl | rfl | rfl | rfl | rfl
      · rw [Int.add_zero]; exact y0
      · exact y1
      · exact y2
      · exact y3
      · exact y4
  · exact h0 (fun h => by have := h.1; omega)
theorem c_isWord_mo {X : AX} (d : Nat) (sb ss : Nat) (T : TyT) (G : TyG) (L : TyL) (O : TyO) (fk fp due nx0 q im : Int) (P : TyP) (C : TyC) (B D : TyB) (S N : TyS) (t : AH) (tp : FN) {Q : AQ} (hn : 0 ≤ T.2 ∧ T.2 ≤ 200) (hrt : ∀ i, bAnd (T.1 i) 255 = tp i) (htp : ∀ i, 0 ≤ tp i ∧ tp i ≤ 255) (hq : 0 ≤ q ∧ nx0 ≤ T.2) (hw : nx0 = q + wl tp T.2 q) (h1 : Wmo tp T.2 q → Q (some (iv 1)) (CH sb ss T G L O (fk, fp, due, nx0, q, im) P C B D S N t)) (h0 : ¬ Wmo tp T.2 q → Q (some (iv 0)) (CH sb ss T G L O (fk, fp, due, nx0, q, im) P C B D S N t)) :
    AW X (d + 6) 0 0 51 0 (aEntry 51 [rf 16, rf 1, sc 3]) [] (CH sb ss T G L O (fk, fp, due, nx0, q, im) P C B D S N t) Q := by
  have hwl := (wl_ok (tp := tp) (n := T.2) _ q rfl).1
  refine aw_tree (I0_ok X _) [(true, 49)] [12] rfl ?_
  refine aw_cf0 (c_len_mo _ _) rfl ?_
  refine aw_tree (I0_ok X _) [(true, 49)] [12] rfl ?_
  dsimp only
  repeat' (first | refine And.intro ?_ ?_ | (refine aImp_e0 ?_; intro _) | (refine aImp_n0 ?_; intro _) | (refine aImp_i ?_; intro _))
  all_goals (try (first | omega | exact bI_01 _ | exact bI_lo _ | exact bI_hi _ | exact bI_hi' _ | exact trivial | exact Or.inl rfl | exact Or.inr rfl | (exfalso; omega)))
  · next hl =>
    refine c_wd_loop d sb ss T G L O fk fp due nx0 q im P C B D S N t tp hn hrt htp 3 4 (fun i => ([109, 111, 115, 116] : List Int).getD i.toNat 0) rfl (by omega) (fun d h => c_len_mo d h) (fun d h i hi => c_chr_mo d h i hi) (fun i i0 i1 => ?_) (by omega) (fun hy => ?_) (fun hy => ?_) 4 0 (by omega) (by omega) (fun i i0 i1 => by omega)
    · have : i = 0 ∨ i = 1 ∨ i = 2 ∨ i = 3 := by omega
      rcases this with rfl | rfl | rfl | rfl <;> decide
    · refine h1 ⟨by omega, ?_⟩
      have y0 : tp (q + 0) = 109 := hy 0 (by omega) (by omega)
      have y1 : tp (q + 1) = 111 := hy 1 (by omega) (by omega)
      have y2 : tp (q + 2) = 115 := hy 2 (by omega) (by omega)
      have y3 : tp (q + 3) = 116 := hy 3 (by omega) (by omega)
      rw [Int.add_zero] at y0
      exact ⟨y0, y1, y2, y3⟩
    · refine h0 (fun hw' => hy (fun i i0 i1 => ?_))
      obtain ⟨_, y0, y1, y2, y3⟩ := hw'
      have : i = 0 ∨ i = 1 ∨ i = 2 ∨ i = 3 := by omega
      rcases this with rfl | rfl | rfl | rfl
      · rw [Int.add_zero]; exact y0
      · exact y1
      · exact y2
      · exact y3
  · exact h0 (fun h => by have := h.1; omega)
theorem c_isWord_da {X : AX} (d : Nat) (sb ss : Nat) (T : TyT) (G : TyG) (L : TyL) (O : TyO) (fk fp due nx0 q im : Int) (P : TyP) (C : TyC) (B D : TyB) (S N : TyS) (t : AH) (tp : FN) {Q : AQ} (hn : 0 ≤ T.2 ∧ T.2 ≤ 200) (hrt : ∀ i, bAnd (T.1 i) 255 = tp i) (htp : ∀ i, 0 ≤ tp i ∧ tp i ≤ 255) (hq : 0 ≤ q ∧ nx0 ≤ T.2) (hw : nx0 = q + wl tp T.2 q) (h1 : Wda tp T.2 q → Q (some (iv 1)) (CH sb ss T G L O (fk, fp, due, nx0, q, im) P C B D S N t)) (h0 : ¬ Wda tp T.2 q → Q (some (iv 0)) (CH sb ss T G L O (fk, fp, due, nx0, q, im) P C B D S N t)) :
    AW X (d + 6) 0 0 51 0 (aEntry 51 [rf 16, rf 1, sc 4]) [] (CH sb ss T G L O (fk, fp, due, nx0, q, im) P C B D S N t) Q := by
  have hwl := (wl_ok (tp := tp) (n := T.2) _ q rfl).1
  refine aw_tree (I0_ok X _) [(true, 49)] [12] rfl ?_
  refine aw_cf0 (c_len_da _ _) rfl ?_
  refine aw_tree (I0_ok X _) [(true, 49)] [12] rfl ?_
  dsimp only
  repeat' (first | refine And.intro ?_ ?_ | (refine aImp_e0 ?_; intro _) | (refine aImp_n0 ?_; intro _) | (refine aImp_i ?_; intro _))
  all_goals (try (first | omega | exact bI_01 _ | exact bI_lo _ | exact bI_hi _ | exact bI_hi' _ | exact trivial | exact Or.inl rfl | exact Or.inr rfl | (exfalso; omega)))
  · next hl =>
    refine c_wd_loop d sb ss T G L O fk fp due nx0 q im P C B D S N t tp hn hrt htp 4 4 (fun i => ([100, 97, 116, 101] : List Int).getD i.toNat 0) rfl (by omega) (fun d h => c_len_da d h) (fun d h i hi => c_chr_da d h i hi) (fun i i0 i1 => ?_) (by omega) (fun hy => ?_) (fun hy => ?_) 4 0 (by omega) (by omega) (fun i i0 i1 => by omega)
    · have : i = 0 ∨ i = 1 ∨ i = 2 ∨ i = 3 := by omega
      rcases this with rfl | rfl | rfl | rfl <;> decide
    · refine h1 ⟨by omega, ?_⟩
      have y0 : tp (q + 0) = 100 := hy 0 (by omega) (by omega)
      have y1 : tp (q + 1) = 97 := hy 1 (by omega) (by omega)
      have y2 : tp (q + 2) = 116 := hy 2 (by omega) (by omega)
      have y3 : tp (q + 3) = 101 := hy 3 (by omega) (by omega)
      rw [Int.add_zero] at y0
      exact ⟨y0, y1, y2, y3⟩
    · refine h0 (fun hw' => hy (fun i i0 i1 => ?_))
      obtain ⟨_, y0, y1, y2, y3⟩ := hw'
      have : i = 0 ∨ i = 1 ∨ i = 2 ∨ i = 3 := by omega
      rcases this with rfl | rfl | rfl | rfl
      · rw [Int.add_zero]; exact y0
      · exact y1
      · exact y2
      · exact y3
  · exact h0 (fun h => by have := h.1; omega)
theorem c_isWord_ag {X : AX} (d : Nat) (sb ss : Nat) (T : TyT) (G : TyG) (L : TyL) (O : TyO) (fk fp due nx0 q im : Int) (P : TyP) (C : TyC) (B D : TyB) (S N : TyS) (t : AH) (tp : FN) {Q : AQ} (hn : 0 ≤ T.2 ∧ T.2 ≤ 200) (hrt : ∀ i, bAnd (T.1 i) 255 = tp i) (htp : ∀ i, 0 ≤ tp i ∧ tp i ≤ 255) (hq : 0 ≤ q ∧ nx0 ≤ T.2) (hw : nx0 = q + wl tp T.2 q) (h1 : Wag tp T.2 q → Q (some (iv 1)) (CH sb ss T G L O (fk, fp, due, nx0, q, im) P C B D S N t)) (h0 : ¬ Wag tp T.2 q → Q (some (iv 0)) (CH sb ss T G L O (fk, fp, due, nx0, q, im) P C B D S N t)) :
    AW X (d + 6) 0 0 51 0 (aEntry 51 [rf 16, rf 1, sc 5]) [] (CH sb ss T G L O (fk, fp, due, nx0, q, im) P C B D S N t) Q := by
  have hwl := (wl_ok (tp := tp) (n := T.2) _ q rfl).1
  refine aw_tree (I0_ok X _) [(true, 49)] [12] rfl ?_
  refine aw_cf0 (c_len_ag _ _) rfl ?_
  refine aw_tree (I0_ok X _) [(true, 49)] [12] rfl ?_
  dsimp only
  repeat' (first | refine And.intro ?_ ?_ | (refine aImp_e0 ?_; intro _) | (refine aImp_n0 ?_; intro _) | (refine aImp_i ?_; intro _))
  all_goals (try (first | omega | exact bI_01 _ | exact bI_lo _ | exact bI_hi _ | exact bI_hi' _ | exact trivial | exact Or.inl rfl | exact Or.inr rfl | (exfalso; omega)))
  · next hl =>
    refine c_wd_loop d sb ss T G L O fk fp due nx0 q im P C B D S N t tp hn hrt htp 5 3 (fun i => ([97, 103, 101] : List Int).getD i.toNat 0) rfl (by omega) (fun d h => c_len_ag d h) (fun d h i hi => c_chr_ag d h i hi) (fun i i0 i1 => ?_) (by omega) (fun hy => ?_) (fun hy => ?_) 3 0 (by omega) (by omega) (fun i i0 i1 => by omega)
    · have : i = 0 ∨ i = 1 ∨ i = 2 := by omega
      rcases this with rfl | rfl | rfl <;> decide
    · refine h1 ⟨by omega, ?_⟩
      have y0 : tp (q + 0) = 97 := hy 0 (by omega) (by omega)
      have y1 : tp (q + 1) = 103 := hy 1 (by omega) (by omega)
      have y2 : tp (q + 2) = 101 := hy 2 (by omega) (by omega)
      rw [Int.add_zero] at y0
      exact ⟨y0, y1, y2⟩
    · refine h0 (fun hw' => hy (fun i i0 i1 => ?_))
      obtain ⟨_, y0, y1, y2⟩ := hw'
      have : i = 0 ∨ i = 1 ∨ i = 2 := by omega
      rcases this with rfl | rfl | rfl
      · rw [Int.add_zero]; exact y0
      · exact y1
      · exact y2
  · exact h0 (fun h => by have := h.1; omega)
theorem c_isWord_wo {X : AX} (d : Nat) (sb ss : Nat) (T : TyT) (G : TyG) (L : TyL) (O : TyO) (fk fp due nx0 q im : Int) (P : TyP) (C : TyC) (B D : TyB) (S N : TyS) (t : AH) (tp : FN) {Q : AQ} (hn : 0 ≤ T.2 ∧ T.2 ≤ 200) (hrt : ∀ i, bAnd (T.1 i) 255 = tp i) (htp : ∀ i, 0 ≤ tp i ∧ tp i ≤ 255) (hq : 0 ≤ q ∧ nx0 ≤ T.2) (hw : nx0 = q + wl tp T.2 q) (h1 : Wwo tp T.2 q → Q (some (iv 1)) (CH sb ss T G L O (fk, fp, due, nx0, q, im) P C B D S N t)) (h0 : ¬ Wwo tp T.2 q → Q (some (iv 0)) (CH sb ss T G L O (fk, fp, due, nx0, q, im) P C B D S N t)) :
    AW X (d + 6) 0 0 51 0 (aEntry 51 [rf 16, rf 1, sc 6]) [] (CH sb ss T G L O (fk, fp, due, nx0, q, im) P C B D S N t) Q := by
  have hwl := (wl_ok (tp := tp) (n := T.2) _ q rfl).1
  refine aw_tree (I0_ok X _) [(true, 49)] [12] rfl ?_
  refine aw_cf0 (c_len_wo _ _) rfl ?_
  refine aw_tree (I0_ok X _) [(true, 49)] [12] rfl ?_
  dsimp only
  repeat' (first | refine And.intro ?_ ?_ | (refine aImp_e0 ?_; intro _) | (refine aImp_n0 ?_; intro _) | (refine aImp_i ?_; intro _))
  all_goals (try (first | omega | exact bI_01 _ | exact bI_lo _ | exact bI_hi _ | exact bI_hi' _ | exact trivial | exact Or.inl rfl | exact Or.inr rfl | (exfalso; omega)))
  · next hl =>
    refine c_wd_loop d sb ss T G L O fk fp due nx0 q im P C B D S N t tp hn hrt htp 6 5 (fun i => ([119, 111, 114, 116, 104] : List Int).getD i.toNat 0) rfl (by omega) (fun d h => c_len_wo d h) (fun d h i hi => c_chr_wo d h i hi) (fun i i0 i1 => ?_) (by omega) (fun hy => ?_) (fun hy => ?_) 5 0 (by omega) (by omega) (fun i i0 i1 => by omega)
    · have : i = 0 ∨ i = 1 ∨ i = 2 ∨ i = 3 ∨ i = 4 := by omega
      rcases this with rfl | rfl | rfl | rfl | rfl <;> decide
    · refine h1 ⟨by omega, ?_⟩
      have y0 : tp (q + 0) = 119 := hy 0 (by omega) (by omega)
      have y1 : tp (q + 1) = 111 := hy 1 (by omega) (by omega)
      have y2 : tp (q + 2) = 114 := hy 2 (by omega) (by omega)
      have y3 : tp (q + 3) = 116 := hy 3 (by omega) (by omega)
      have y4 : tp (q + 4) = 104 := hy 4 (by omega) (by omega)
      rw [Int.add_zero] at y0
      exact ⟨y0, y1, y2, y3, y4⟩
    · refine h0 (fun hw' => hy (fun i i0 i1 => ?_))
      obtain ⟨_, y0, y1, y2, y3, y4⟩ := hw'
      have : i = 0 ∨ i = 1 ∨ i = 2 ∨ i = 3 ∨ i = 4 := by omega
      rcases this with rfl | rfl | rfl | rfl | rfl
      · rw [Int.add_zero]; exact y0
      · exact y1
      · exact y2
      · exact y3
      · exact y4
  · exact h0 (fun h => by have := h.1; omega)
theorem c_isWord_wi {X : AX} (d : Nat) (sb ss : Nat) (T : TyT) (G : TyG) (L : TyL) (O : TyO) (fk fp due nx0 q im : Int) (P : TyP) (C : TyC) (B D : TyB) (S N : TyS) (t : AH) (tp : FN) {Q : AQ} (hn : 0 ≤ T.2 ∧ T.2 ≤ 200) (hrt : ∀ i, bAnd (T.1 i) 255 = tp i) (htp : ∀ i, 0 ≤ tp i ∧ tp i ≤ 255) (hq : 0 ≤ q ∧ nx0 ≤ T.2) (hw : nx0 = q + wl tp T.2 q) (h1 : Wwi tp T.2 q → Q (some (iv 1)) (CH sb ss T G L O (fk, fp, due, nx0, q, im) P C B D S N t)) (h0 : ¬ Wwi tp T.2 q → Q (some (iv 0)) (CH sb ss T G L O (fk, fp, due, nx0, q, im) P C B D S N t)) :
    AW X (d + 6) 0 0 51 0 (aEntry 51 [rf 16, rf 1, sc 7]) [] (CH sb ss T G L O (fk, fp, due, nx0, q, im) P C B D S N t) Q := by
  have hwl := (wl_ok (tp := tp) (n := T.2) _ q rfl).1
  refine aw_tree (I0_ok X _) [(true, 49)] [12] rfl ?_
  refine aw_cf0 (c_len_wi _ _) rfl ?_
  refine aw_tree (I0_ok X _) [(true, 49)] [12] rfl ?_
  dsimp only
  repeat' (first | refine And.intro ?_ ?_ | (refine aImp_e0 ?_; intro _) | (refine aImp_n0 ?_; intro _) | (refine aImp_i ?_; intro _))
  all_goals (try (first | omega | exact bI_01 _ | exact bI_lo _ | exact bI_hi _ | exact bI_hi' _ | exact trivial | exact Or.inl rfl | exact Or.inr rfl | (exfalso; omega)))
  · next hl =>
    refine c_wd_loop d sb ss T G L O fk fp due nx0 q im P C B D S N t tp hn hrt htp 7 5 (fun i => ([119, 105, 100, 116, 104] : List Int).getD i.toNat 0) rfl (by omega) (fun d h => c_len_wi d h) (fun d h i hi => c_chr_wi d h i hi) (fun i i0 i1 => ?_) (by omega) (fun hy => ?_) (fun hy => ?_) 5 0 (by omega) (by omega) (fun i i0 i1 => by omega)
    · have : i = 0 ∨ i = 1 ∨ i = 2 ∨ i = 3 ∨ i = 4 := by omega
      rcases this with rfl | rfl | rfl | rfl | rfl <;> decide
    · refine h1 ⟨by omega, ?_⟩
      have y0 : tp (q + 0) = 119 := hy 0 (by omega) (by omega)
      have y1 : tp (q + 1) = 105 := hy 1 (by omega) (by omega)
      have y2 : tp (q + 2) = 100 := hy 2 (by omega) (by omega)
      have y3 : tp (q + 3) = 116 := hy 3 (by omega) (by omega)
      have y4 : tp (q + 4) = 104 := hy 4 (by omega) (by omega)
      rw [Int.add_zero] at y0
      exact ⟨y0, y1, y2, y3, y4⟩
    · refine h0 (fun hw' => hy (fun i i0 i1 => ?_))
      obtain ⟨_, y0, y1, y2, y3, y4⟩ := hw'
      have : i = 0 ∨ i = 1 ∨ i = 2 ∨ i = 3 ∨ i = 4 := by omega
      rcases this with rfl | rfl | rfl | rfl | rfl
      · rw [Int.add_zero]; exact y0
      · exact y1
      · exact y2
      · exact y3
      · exact y4
  · exact h0 (fun h => by have := h.1; omega)
theorem c_isWord_ey {X : AX} (d : Nat) (sb ss : Nat) (T : TyT) (G : TyG) (L : TyL) (O : TyO) (fk fp due nx0 q im : Int) (P : TyP) (C : TyC) (B D : TyB) (S N : TyS) (t : AH) (tp : FN) {Q : AQ} (hn : 0 ≤ T.2 ∧ T.2 ≤ 200) (hrt : ∀ i, bAnd (T.1 i) 255 = tp i) (htp : ∀ i, 0 ≤ tp i ∧ tp i ≤ 255) (hq : 0 ≤ q ∧ nx0 ≤ T.2) (hw : nx0 = q + wl tp T.2 q) (h1 : Wey tp T.2 q → Q (some (iv 1)) (CH sb ss T G L O (fk, fp, due, nx0, q, im) P C B D S N t)) (h0 : ¬ Wey tp T.2 q → Q (some (iv 0)) (CH sb ss T G L O (fk, fp, due, nx0, q, im) P C B D S N t)) :
    AW X (d + 6) 0 0 51 0 (aEntry 51 [rf 16, rf 1, sc 8]) [] (CH sb ss T G L O (fk, fp, due, nx0, q, im) P C B D S N t) Q := by
  have hwl := (wl_ok (tp := tp) (n := T.2) _ q rfl).1
  refine aw_tree (I0_ok X _) [(true, 49)] [12] rfl ?_
  refine aw_cf0 (c_len_ey _ _) rfl ?_
  refine aw_tree (I0_ok X _) [(true, 49)] [12] rfl ?_
  dsimp only
  repeat' (first | refine And.intro ?_ ?_ | (refine aImp_e0 ?_; intro _) | (refine aImp_n0 ?_; intro _) | (refine aImp_i ?_; intro _))
  all_goals (try (first | omega | exact bI_01 _ | exact bI_lo _ | exact bI_hi _ | exact bI_hi' _ | exact trivial | exact Or.inl rfl | exact Or.inr rfl | (exfalso; omega)))
  · next hl =>
    refine c_wd_loop d sb ss T G L O fk fp due nx0 q im P C B D S N t tp hn hrt htp 8 3 (fun i => ([101, 121, 101] : List Int).getD i.toNat 0) rfl (by omega) (fun d h => c_len_ey d h) (fun d h i hi => c_chr_ey d h i hi) (fun i i0 i1 => ?_) (by omega) (fun hy => ?_) (fun hy => ?_) 3 0 (by omega) (by omega) (fun i i0 i1 => by omega)
    · have : i = 0 ∨ i = 1 ∨ i = 2 := by omega
      rcases this with rfl | rfl | rfl <;> decide
    · refine h1 ⟨by omega, ?_⟩
      have y0 : tp (q + 0) = 101 := hy 0 (by omega) (by omega)
      have y1 : tp (q + 1) = 121 := hy 1 (by omega) (by omega)
      have y2 : tp (q + 2) = 101 := hy 2 (by omega) (by omega)
      rw [Int.add_zero] at y0
      exact ⟨y0, y1, y2⟩
    · refine h0 (fun hw' => hy (fun i i0 i1 => ?_))
      obtain ⟨_, y0, y1, y2⟩ := hw'
      have : i = 0 ∨ i = 1 ∨ i = 2 := by omega
      rcases this with rfl | rfl | rfl
      · rw [Int.add_zero]; exact y0
      · exact y1
      · exact y2
  · exact h0 (fun h => by have := h.1; omega)

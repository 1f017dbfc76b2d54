set_option maxRecDepth 100000 in
theorem c_row {X : AX} (d : Nat) (sb ss : Nat) (T : TyT) (G : TyG) (L : TyL) (O : TyO) (R : TyR) (P : TyP) (C : TyC) (B D : TyB) (S N : TyS) (bm : AC24) (β : List TyBn) (w f dp : Int) {Q : AQ} (hw : inR w) (hf : inR f) (hd : inR dp) (hc : 0 ≤ L.2.1 ∧ L.2.1 ≤ 6) (hb : hlB L) (hl : (β.length : Int) = L.2.1)
    (h1 : ¬ (((4 ≤ w ∧ w ≤ 40) ∧ (0 ≤ f ∧ f ≤ 300) ∧ (20 ≤ dp ∧ dp ≤ 60)) ∧ L.2.1 < 6) → Q (some (iv (-1))) (CH sb ss T G L O R P C B D S N (MV bm (BH 73 β))))
    (h2 : ((4 ≤ w ∧ w ≤ 40) ∧ (0 ≤ f ∧ f ≤ 300) ∧ (20 ≤ dp ∧ dp ≤ 60)) ∧ L.2.1 < 6 → ∀ ds : Int, (L.2.1 = 0 → ds = dp) → (∀ b, β[β.length - 1]? = some b → ds = b.2.2.2.1 + dp) → Q (some (iv (L.2.1 + 1))) (CH sb ss T G (aUp L.1 L.2.1 (some (73 + 4 * β.length)), L.2.1 + 1, L.2.2.1, L.2.2.2.1, L.2.2.2.2) O R P C B D S N (MV bm (BH 73 (β ++ [(L.2.1, w, f, ds, zf, zf, zf)]))))) :
    AW X (d + 6) 4 2705 83 0 (aEntry 83 [rf 0, iv w, iv f, iv dp]) [] (CH sb ss T G L O R P C B D S N (MV bm (BH 73 β))) Q := by
  unfold inR at hw hf hd
  by_cases hok : ((4 ≤ w ∧ w ≤ 40) ∧ (0 ≤ f ∧ f ≤ 300) ∧ (20 ≤ dp ∧ dp ≤ 60)) ∧ L.2.1 < 6
  · have hQ := h2 hok
    refine aw_tree (I0_ok X _) [(true, 49)] [] rfl ?_
    repeat' (first | refine And.intro ?_ ?_ | (refine aImp_e0 ?_; intro _) | (refine aImp_n0 ?_; intro _) | (refine aImp_i ?_; intro _))
    all_goals (try (first | omega | exact bI_01 _ | exact bI_lo _ | exact bI_hi _ | exact bI_hi' _ | exact trivial | exact Or.inl rfl | exact Or.inr rfl | (exfalso; omega)))
    match β, hl, hQ with
    | [], hl, hQ =>
      simp only [List.length_cons, List.length_nil] at hl
      have e : L.2.1 = 0 := by omega
      have q := hQ dp (fun _ => rfl) (fun b h => by cases h)
      refine aw_cf (kc2 := 0) (ks2 := 0) (c_hadd0 _ sb ss T G L O R P C B D S N bm  w f dp e hb (by omega)) rfl rfl rfl ?_
      refine aw_tree (I0_ok X _) [(true, 49)] [] rfl ?_
      exact q
    | [b0], hl, hQ =>
      simp only [List.length_cons, List.length_nil] at hl
      have e : L.2.1 = 1 := by omega
      have q := hQ (b0.2.2.2.1 + dp) (fun h => by omega) (fun b h => by cases h; rfl)
      refine aw_cf (kc2 := 0) (ks2 := 0) (c_hadd1 _ sb ss T G L O R P C B D S N bm b0 w f dp e hb (by omega)) rfl rfl rfl ?_
      refine aw_tree (I0_ok X _) [(true, 49)] [] rfl ?_
      exact q
    | [b0, b1], hl, hQ =>
      simp only [List.length_cons, List.length_nil] at hl
      have e : L.2.1 = 2 := by omega
      have q := hQ (b1.2.2.2.1 + dp) (fun h => by omega) (fun b h => by cases h; rfl)
      refine aw_cf (kc2 := 0) (ks2 := 0) (c_hadd2 _ sb ss T G L O R P C B D S N bm b0 b1 w f dp e hb (by omega)) rfl rfl rfl ?_
      refine aw_tree (I0_ok X _) [(true, 49)] [] rfl ?_
      exact q
    | [b0, b1, b2], hl, hQ =>
      simp only [List.length_cons, List.length_nil] at hl
      have e : L.2.1 = 3 := by omega
      have q := hQ (b2.2.2.2.1 + dp) (fun h => by omega) (fun b h => by cases h; rfl)
      refine aw_cf (kc2 := 0) (ks2 := 0) (c_hadd3 _ sb ss T G L O R P C B D S N bm b0 b1 b2 w f dp e hb (by omega)) rfl rfl rfl ?_
      refine aw_tree (I0_ok X _) [(true, 49)] [] rfl ?_
      exact q
    | [b0, b1, b2, b3], hl, hQ =>
      simp only [List.length_cons, List.length_nil] at hl
      have e : L.2.1 = 4 := by omega
      have q := hQ (b3.2.2.2.1 + dp) (fun h => by omega) (fun b h => by cases h; rfl)
      refine aw_cf (kc2 := 0) (ks2 := 0) (c_hadd4 _ sb ss T G L O R P C B D S N bm b0 b1 b2 b3 w f dp e hb (by omega)) rfl rfl rfl ?_
      refine aw_tree (I0_ok X _) [(true, 49)] [] rfl ?_
      exact q
    | [b0, b1, b2, b3, b4], hl, hQ =>
      simp only [List.length_cons, List.length_nil] at hl
      have e : L.2.1 = 5 := by omega
      have q := hQ (b4.2.2.2.1 + dp) (fun h => by omega) (fun b h => by cases h; rfl)
      refine aw_cf (kc2 := 0) (ks2 := 0) (c_hadd5 _ sb ss T G L O R P C B D S N bm b0 b1 b2 b3 b4 w f dp e hb (by omega)) rfl rfl rfl ?_
      refine aw_tree (I0_ok X _) [(true, 49)] [] rfl ?_
      exact q
    | b0 :: b1 :: b2 :: b3 :: b4 :: b5 :: bt, hl, hQ =>
      exfalso
      simp only [List.length_cons] at hl
      omega
  · have q := h1 hok
    refine aw_tree (I0_ok X _) [(true, 49)] [] rfl ?_
    repeat' (first | refine And.intro ?_ ?_ | (refine aImp_e0 ?_; intro _) | (refine aImp_n0 ?_; intro _) | (refine aImp_i ?_; intro _))
    all_goals (try (first | omega | exact bI_01 _ | exact bI_lo _ | exact bI_hi _ | exact bI_hi' _ | exact trivial | exact Or.inl rfl | exact Or.inr rfl | (exfalso; omega)))
    all_goals exact q

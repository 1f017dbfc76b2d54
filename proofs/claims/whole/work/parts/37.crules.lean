theorem rB_of {n p K : Int} {b : TyB} {pb : PB} (mU : TyMU) (hi : inv n 0 0 p K pb) (hD : rD b pb 0 K) : rB b (cpU mU pb) ∧ kU (cpU mU pb) := by
  obtain ⟨a1, a2, a3, a4, a5, a6⟩ := hi
  obtain ⟨d1, d2, d3, d4, d5, d6⟩ := hD
  have hcl := cnt_le pb.1
  have e1 : ∀ k, 0 ≤ k → k < 8 → (cpU mU pb).1 k = pb.1 k := fun k h0 h1 => cpy_lt 8 k h0 h1
  have e2 : ∀ x, 0 ≤ x → x < pb.2.2.2 → (cpU mU pb).2.1 x = pb.2.1 x := fun x h0 h1 => cpy_lt _ x h0 (by omega)
  have e3 : ∀ k, 0 ≤ k → k < 80 * pb.2.2.2 → (cpU mU pb).2.2.1 k = pb.2.2.1 k := fun k h0 h1 => cpy_lt _ k h0 (by omega)
  have e4 : (cpU mU pb).2.2.2 = pb.2.2.2 := rfl
  refine ⟨⟨by rw [e4]; exact d1.1, fun k k0 k1 => by rw [e1 k k0 k1]; exact d2 k k0 k1, fun x x0 x1 => ?_, fun x k x0 x1 k0 k1 => ?_⟩, ⟨by rw [e4]; omega, fun k k0 k1 => ?_, fun x x0 x1 => ?_, fun x k x0 x1 k0 k1 => ?_⟩⟩
  · rw [e4] at x1
    rw [e2 x x0 x1]
    have := d3 x x0 x1
    exact ⟨this.1, this.2.1, by have := this.2.2; omega⟩
  · rw [e4] at x1
    rw [e2 x x0 x1] at k1
    have hm := (a6 x x0 (by omega)).1
    have := d4 x k x0 x1 k0 k1
    unfold kyE at this
    rw [e3 _ (by omega) (by omega), e3 _ (by omega) (by omega)]
    refine ⟨this.1, ?_⟩
    rw [this.2]
    by_cases h : pb.2.2.1 (80 * x + 2 * k + 1) = -1
    · rw [cif_t h, if_pos h]
    · rw [cif_f h, if_neg h]
  · rw [e1 k k0 k1, e4]
    have := a4 k k0 k1
    omega
  · rw [e4] at x1
    rw [e2 x x0 x1]
    have := (a6 x x0 (by omega)).1
    omega
  · rw [e4] at x1
    rw [e2 x x0 x1] at k1
    have hm := a6 x x0 (by omega)
    rw [e3 _ (by omega) (by omega), e3 _ (by omega) (by omega)]
    exact hm.2 k k0 k1
theorem c_rules0 {X : AX} (d : Nat) (ss : Nat) (T : TyT) (G : TyG) (L : TyL) (O : TyO) (R0 : TyR) (P : TyP) (C : TyC) (B D : TyB) (S N : TyS) (t : AH) {Q : AQ} {R : PR} (tp : FN) (mG : TyMG) (mU : TyMU) (mP : TyMP) (hn : 0 ≤ T.2 ∧ T.2 ≤ 200) (hrt : ∀ i, bAnd (T.1 i) 255 = tp i) (htp : ∀ i, 0 ≤ tp i ∧ tp i ≤ 255) (hG : kG mG) (hv : rGv G mG) (him : R0.2.2.2.2.2 = 0 ∨ R0.2.2.2.2.2 = 1) (hR : prs tp T.2 201 0 0 1 (pb0 mP) = R)
    (hF : ∀ (b' : TyB) (R' : TyR), (R.1 = 1 ∨ R.1 = 2) → R'.1 = R.1 → R'.2.1 = R.2.1 → (R'.2.2.2.2.2 = 0 ∨ R'.2.2.2.2.2 = 1) → Q (some (iv (-1))) (CH 1 ss (T.1, 0) G L O R' P C b' D S N t))
    (hS : ∀ (b' : TyB) (R' : TyR), R.1 = 0 → R'.1 = 0 → R'.2.1 = -1 → (R'.2.2.2.2.2 = 0 ∨ R'.2.2.2.2.2 = 1) → rB b' (cpU mU R.2.2) → kU (cpU mU R.2.2) → Q (some (iv R.2.2.2.2.2)) (CH 0 ss (T.1, 0) G L (ordM mG (cpU mU R.2.2) O) R' P C b' D S N t)) :
    AW X (d + 10) 0 0 85 0 (aEntry 85 [rf 0]) [] (CH 1 ss T G L O R0 P C B D S N t) Q := by
  refine aw_tree (I0_ok X _) [(true, 49)] [] rfl ?_
  have hread : ∀ {Q1 : AQ}, (∀ (b' : TyB) (R' : TyR), (R.1 = 1 ∨ R.1 = 2) → R'.1 = R.1 → R'.2.1 = R.2.1 → (R'.2.2.2.2.2 = 0 ∨ R'.2.2.2.2.2 = 1) → Q1 (some (iv 0)) (CH 1 ss T G L O R' P C b' D S N t)) → (∀ (b' : TyB) (R' : TyR) (p K : Int), R.1 = 0 → R'.1 = 0 → R'.2.1 = -1 → (R'.2.2.2.2.2 = 0 ∨ R'.2.2.2.2.2 = 1) → inv T.2 0 0 p K R.2.2 → rD b' R.2.2 0 K → Q1 (some (iv 1)) (CH 1 ss T G L O R' P C b' D S N t)) → AW X (d + 9) 0 0 47 0 (aEntry 47 [rf 16, rf 1, rf 31]) [] (CH 1 ss T G L O R0 P C B D S N t) Q1 := by
    intro Q1 hF1 hS1
    refine aw_tree (I0_ok X _) [(true, 49)] [] rfl ?_
    refine aw_cf0 (c_clear0 _ 1 ss T G L O R0 P C B D S N t) rfl ?_
    refine aw_tree (I0_ok X _) [(true, 49)] [16] rfl ?_
    refine c_read_loop0 d 1 ss T G L O P C B D S N t tp hn hrt htp hF1 hS1 201 0 0 1 R0.2.2.2.2.2 0 0 R0.2.2.2.2.1 (pb0 mP) (fil B.1 (-1) 8, B.2.1, B.2.2.1, B.2.2.2.1, 0, 0) jk (by omega) ?_ ?_ him (fun h => by omega) (by omega) (by omega) hR
    · rw [cif_t rfl, cif_f (by omega)]; exact pb0_inv hn
    · rw [cif_t rfl]
      refine ⟨⟨rfl, rfl⟩, fun k k0 k1 => ?_, fun x x0 x1 => ?_, fun x k x0 x1 k0 k1 => ?_, ?_, fun k k0 k1 => by omega⟩
      · show fil B.1 (-1) 8 k = fil mP.1 (-1) 8 k
        rw [fil_lt 8 k k0 k1, fil_lt 8 k k0 k1]
      · have : x < 0 := x1
        omega
      · have : x < 0 := x1
        omega
      · have e : stB (fil B.1 (-1) 8, B.2.1, B.2.2.1, B.2.2.2.1, 0, 0) (pb0 mP).2.2.2 = 0 := if_pos rfl
        rw [e]
        omega
  refine aw_ck0 (hread (fun b' R' h1 h2 h3 h6 => ?_) (fun b' R' p K h1 h2 h3 h6 h4 h5 => ?_)) rfl
  · refine aw_tree (I0_ok X _) [(true, 49)] [] rfl ?_
    dsimp only
    repeat' (first | refine And.intro ?_ ?_ | (refine aImp_e0 ?_; intro _) | (refine aImp_n0 ?_; intro _) | (refine aImp_i ?_; intro _))
    all_goals (try (first | omega | exact bI_01 _ | exact bI_lo _ | exact bI_hi _ | exact bI_hi' _ | exact trivial | exact Or.inl rfl | exact Or.inr rfl | (exfalso; omega)))
    exact hF b' R' h1 h2 h3 h6
  · obtain ⟨hb, hu⟩ := rB_of mU h4 h5
    refine aw_tree (I0_ok X _) [(true, 49)] [] rfl ?_
    dsimp only
    repeat' (first | refine And.intro ?_ ?_ | (refine aImp_e0 ?_; intro _) | (refine aImp_n0 ?_; intro _) | (refine aImp_i ?_; intro _))
    all_goals (try (first | omega | exact bI_01 _ | exact bI_lo _ | exact bI_hi _ | exact bI_hi' _ | exact trivial | exact Or.inl rfl | exact Or.inr rfl | (exfalso; omega)))
    refine aw_cf0 (c_rebuild0 _ 0 ss (T.1, 0) G L O R' P C b' D S N t mG (cpU mU R.2.2) hG hu hv hb) rfl ?_
    have e : b'.2.2.2.2.2 = R.2.2.2.2.2 := hb.1
    have goal := hS b' R' h1 h2 h3 h6 hb hu
    rw [← e] at goal
    refine aw_tree (I0_ok X _) [(true, 49)] [] rfl ?_
    exact goal
theorem c_rules1 {X : AX} (d : Nat) (ss : Nat) (T : TyT) (G : TyG) (L : TyL) (O : TyO) (R0 : TyR) (P : TyP) (C : TyC) (B D : TyB) (S N : TyS) (t : AH) {Q : AQ} {R : PR} (tp : FN) (mG : TyMG) (mU : TyMU) (mP : TyMP) (hn : 0 ≤ T.2 ∧ T.2 ≤ 200) (hrt : ∀ i, bAnd (T.1 i) 255 = tp i) (htp : ∀ i, 0 ≤ tp i ∧ tp i ≤ 255) (hG : kG mG) (hv : rGv G mG) (him : R0.2.2.2.2.2 = 0 ∨ R0.2.2.2.2.2 = 1) (hR : prs tp T.2 201 0 0 1 (pb0 mP) = R)
    (hF : ∀ (b' : TyB) (R' : TyR), (R.1 = 1 ∨ R.1 = 2) → R'.1 = R.1 → R'.2.1 = R.2.1 → (R'.2.2.2.2.2 = 0 ∨ R'.2.2.2.2.2 = 1) → Q (some (iv (-1))) (CH 0 ss (T.1, 0) G L O R' P C B b' S N t))
    (hS : ∀ (b' : TyB) (R' : TyR), R.1 = 0 → R'.1 = 0 → R'.2.1 = -1 → (R'.2.2.2.2.2 = 0 ∨ R'.2.2.2.2.2 = 1) → rB b' (cpU mU R.2.2) → kU (cpU mU R.2.2) → Q (some (iv R.2.2.2.2.2)) (CH 1 ss (T.1, 0) G L (ordM mG (cpU mU R.2.2) O) R' P C B b' S N t)) :
    AW X (d + 10) 0 0 85 0 (aEntry 85 [rf 0]) [] (CH 0 ss T G L O R0 P C B D S N t) Q := by
  refine aw_tree (I0_ok X _) [(true, 49)] [] rfl ?_
  have hread : ∀ {Q1 : AQ}, (∀ (b' : TyB) (R' : TyR), (R.1 = 1 ∨ R.1 = 2) → R'.1 = R.1 → R'.2.1 = R.2.1 → (R'.2.2.2.2.2 = 0 ∨ R'.2.2.2.2.2 = 1) → Q1 (some (iv 0)) (CH 0 ss T G L O R' P C B b' S N t)) → (∀ (b' : TyB) (R' : TyR) (p K : Int), R.1 = 0 → R'.1 = 0 → R'.2.1 = -1 → (R'.2.2.2.2.2 = 0 ∨ R'.2.2.2.2.2 = 1) → inv T.2 0 0 p K R.2.2 → rD b' R.2.2 0 K → Q1 (some (iv 1)) (CH 0 ss T G L O R' P C B b' S N t)) → AW X (d + 9) 0 0 47 0 (aEntry 47 [rf 16, rf 1, rf 36]) [] (CH 0 ss T G L O R0 P C B D S N t) Q1 := by
    intro Q1 hF1 hS1
    refine aw_tree (I0_ok X _) [(true, 49)] [] rfl ?_
    refine aw_cf0 (c_clear1 _ 0 ss T G L O R0 P C B D S N t) rfl ?_
    refine aw_tree (I0_ok X _) [(true, 49)] [16] rfl ?_
    refine c_read_loop1 d 0 ss T G L O P C B D S N t tp hn hrt htp hF1 hS1 201 0 0 1 R0.2.2.2.2.2 0 0 R0.2.2.2.2.1 (pb0 mP) (fil D.1 (-1) 8, D.2.1, D.2.2.1, D.2.2.2.1, 0, 0) jk (by omega) ?_ ?_ him (fun h => by omega) (by omega) (by omega) hR
    · rw [cif_t rfl, cif_f (by omega)]; exact pb0_inv hn
    · rw [cif_t rfl]
      refine ⟨⟨rfl, rfl⟩, fun k k0 k1 => ?_, fun x x0 x1 => ?_, fun x k x0 x1 k0 k1 => ?_, ?_, fun k k0 k1 => by omega⟩
      · show fil D.1 (-1) 8 k = fil mP.1 (-1) 8 k
        rw [fil_lt 8 k k0 k1, fil_lt 8 k k0 k1]
      · have : x < 0 := x1
        omega
      · have : x < 0 := x1
        omega
      · have e : stB (fil D.1 (-1) 8, D.2.1, D.2.2.1, D.2.2.2.1, 0, 0) (pb0 mP).2.2.2 = 0 := if_pos rfl
        rw [e]
        omega
  refine aw_ck0 (hread (fun b' R' h1 h2 h3 h6 => ?_) (fun b' R' p K h1 h2 h3 h6 h4 h5 => ?_)) rfl
  · refine aw_tree (I0_ok X _) [(true, 49)] [] rfl ?_
    dsimp only
    repeat' (first | refine And.intro ?_ ?_ | (refine aImp_e0 ?_; intro _) | (refine aImp_n0 ?_; intro _) | (refine aImp_i ?_; intro _))
    all_goals (try (first | omega | exact bI_01 _ | exact bI_lo _ | exact bI_hi _ | exact bI_hi' _ | exact trivial | exact Or.inl rfl | exact Or.inr rfl | (exfalso; omega)))
    exact hF b' R' h1 h2 h3 h6
  · obtain ⟨hb, hu⟩ := rB_of mU h4 h5
    refine aw_tree (I0_ok X _) [(true, 49)] [] rfl ?_
    dsimp only
    repeat' (first | refine And.intro ?_ ?_ | (refine aImp_e0 ?_; intro _) | (refine aImp_n0 ?_; intro _) | (refine aImp_i ?_; intro _))
    all_goals (try (first | omega | exact bI_01 _ | exact bI_lo _ | exact bI_hi _ | exact bI_hi' _ | exact trivial | exact Or.inl rfl | exact Or.inr rfl | (exfalso; omega)))
    refine aw_cf0 (c_rebuild1 _ 1 ss (T.1, 0) G L O R' P C B b' S N t mG (cpU mU R.2.2) hG hu hv hb) rfl ?_
    have e : b'.2.2.2.2.2 = R.2.2.2.2.2 := hb.1
    have goal := hS b' R' h1 h2 h3 h6 hb hu
    rw [← e] at goal
    refine aw_tree (I0_ok X _) [(true, 49)] [] rfl ?_
    exact goal

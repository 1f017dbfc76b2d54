noncomputable def cpy (f g : FN) : Nat → FN
  | 0 => f
  | k + 1 => aUp (cpy f g k) k (g k)
theorem cpy_lt {f g : FN} : ∀ (m : Nat) (i : Int), 0 ≤ i → i < m → cpy f g m i = g i := by
  intro m
  induction m with
  | zero => intro i h0 h1; omega
  | succ m ih =>
    intro i h0 h1
    rw [cpy]
    by_cases h : i = m
    · rw [h, aUp_s]
    · rw [aUp_n _ _ h]; exact ih i h0 (by omega)
noncomputable def cpU (u : TyMU) (pb : PB) : TyMU := (cpy u.1 pb.1 8, cpy u.2.1 pb.2.1 pb.2.2.2.toNat, cpy u.2.2.1 pb.2.2.1 (80 * pb.2.2.2).toNat, pb.2.2.2)
theorem m_cp3 {X : AX} (d : Nat) (a : AC49) (mT : TyT) (mG : TyMG) (mR : TyMR) (l1 l2 l3 : FN) (mP : TyMP) (mO : TyO) (mS : TyMS) (mN : TyMN) (t : AH) (x : Int) {Q : AQ} (hx : 0 ≤ x ∧ x ≤ 8) (hQ : Q (some (iv x)) (CV a (MH mT mG mR (l1, l2, cpy l3 mP.2.2.1 (80 * x).toNat, x) mP mO mS mN t))) :
    ∀ (m k : Nat), k + m = (80 * x).toNat → AW X (d + 2) 0 0 120 83 [rf 49, iv k] [] (CV a (MH mT mG mR (l1, l2, cpy l3 mP.2.2.1 k, x) mP mO mS mN t)) Q := by
  intro m
  induction m with
  | zero =>
    intro k hk
    have e : k = (80 * x).toNat := by omega
    rw [← e] at hQ
    refine aw_tree (I0_ok X _) [(false, 49), (true, 24)] [83] rfl ?_
    dsimp only
    repeat' (first | refine And.intro ?_ ?_ | (refine aImp_e0 ?_; intro _) | (refine aImp_n0 ?_; intro _) | (refine aImp_i ?_; intro _))
    all_goals (try (first | omega | exact bI_01 _ | exact bI_lo _ | exact bI_hi _ | exact bI_hi' _ | exact trivial | exact Or.inl rfl | exact Or.inr rfl | (exfalso; omega)))
    exact hQ
  | succ m ih =>
    intro k hk
    refine aw_tree (I0_ok X _) [(false, 49), (true, 24)] [83] rfl ?_
    dsimp only
    repeat' (first | refine And.intro ?_ ?_ | (refine aImp_e0 ?_; intro _) | (refine aImp_n0 ?_; intro _) | (refine aImp_i ?_; intro _))
    all_goals (try (first | omega | exact bI_01 _ | exact bI_lo _ | exact bI_hi _ | exact bI_hi' _ | exact trivial | exact Or.inl rfl | exact Or.inr rfl | (exfalso; omega)))
    exact ih (k + 1) (by omega)
theorem m_cp2 {X : AX} (d : Nat) (a : AC49) (mT : TyT) (mG : TyMG) (mR : TyMR) (l1 l2 l3 : FN) (mP : TyMP) (mO : TyO) (mS : TyMS) (mN : TyMN) (t : AH) (x : Int) {Q : AQ} (hx : 0 ≤ x ∧ x ≤ 8) (hQ : Q (some (iv x)) (CV a (MH mT mG mR (l1, cpy l2 mP.2.1 x.toNat, cpy l3 mP.2.2.1 (80 * x).toNat, x) mP mO mS mN t))) :
    ∀ (m k : Nat), k + m = x.toNat → AW X (d + 2) 0 0 120 67 [rf 49, iv k] [] (CV a (MH mT mG mR (l1, cpy l2 mP.2.1 k, l3, x) mP mO mS mN t)) Q := by
  intro m
  induction m with
  | zero =>
    intro k hk
    have e : k = x.toNat := by omega
    rw [← e] at hQ
    refine aw_tree (I0_ok X _) [(false, 49), (true, 24)] [67, 83] rfl ?_
    dsimp only
    repeat' (first | refine And.intro ?_ ?_ | (refine aImp_e0 ?_; intro _) | (refine aImp_n0 ?_; intro _) | (refine aImp_i ?_; intro _))
    all_goals (try (first | omega | exact bI_01 _ | exact bI_lo _ | exact bI_hi _ | exact bI_hi' _ | exact trivial | exact Or.inl rfl | exact Or.inr rfl | (exfalso; omega)))
    exact m_cp3 d a mT mG mR l1 (cpy l2 mP.2.1 k) l3 mP mO mS mN t x hx hQ (80 * x).toNat 0 (by omega)
  | succ m ih =>
    intro k hk
    refine aw_tree (I0_ok X _) [(false, 49), (true, 24)] [67, 83] rfl ?_
    dsimp only
    repeat' (first | refine And.intro ?_ ?_ | (refine aImp_e0 ?_; intro _) | (refine aImp_n0 ?_; intro _) | (refine aImp_i ?_; intro _))
    all_goals (try (first | omega | exact bI_01 _ | exact bI_lo _ | exact bI_hi _ | exact bI_hi' _ | exact trivial | exact Or.inl rfl | exact Or.inr rfl | (exfalso; omega)))
    exact ih (k + 1) (by omega)
theorem m_cp1 {X : AX} (d : Nat) (a : AC49) (mT : TyT) (mG : TyMG) (mR : TyMR) (l1 l2 l3 : FN) (mP : TyMP) (mO : TyO) (mS : TyMS) (mN : TyMN) (t : AH) (x : Int) {Q : AQ} (hx : 0 ≤ x ∧ x ≤ 8) (hQ : Q (some (iv x)) (CV a (MH mT mG mR (cpy l1 mP.1 8, cpy l2 mP.2.1 x.toNat, cpy l3 mP.2.2.1 (80 * x).toNat, x) mP mO mS mN t))) :
    ∀ (m k : Nat), k + m = 8 → AW X (d + 2) 0 0 120 52 [rf 49, iv k] [] (CV a (MH mT mG mR (cpy l1 mP.1 k, l2, l3, x) mP mO mS mN t)) Q := by
  intro m
  induction m with
  | zero =>
    intro k hk
    have e : k = 8 := by omega
    subst e
    refine aw_tree (I0_ok X _) [(false, 49), (true, 24)] [52, 67] rfl ?_
    dsimp only
    repeat' (first | refine And.intro ?_ ?_ | (refine aImp_e0 ?_; intro _) | (refine aImp_n0 ?_; intro _) | (refine aImp_i ?_; intro _))
    all_goals (try (first | omega | exact bI_01 _ | exact bI_lo _ | exact bI_hi _ | exact bI_hi' _ | exact trivial | exact Or.inl rfl | exact Or.inr rfl | (exfalso; omega)))
    exact m_cp2 d a mT mG mR (cpy l1 mP.1 8) l2 l3 mP mO mS mN t x hx hQ x.toNat 0 (by omega)
  | succ m ih =>
    intro k hk
    refine aw_tree (I0_ok X _) [(false, 49), (true, 24)] [52, 67] rfl ?_
    dsimp only
    repeat' (first | refine And.intro ?_ ?_ | (refine aImp_e0 ?_; intro _) | (refine aImp_n0 ?_; intro _) | (refine aImp_i ?_; intro _))
    all_goals (try (first | omega | exact bI_01 _ | exact bI_lo _ | exact bI_hi _ | exact bI_hi' _ | exact trivial | exact Or.inl rfl | exact Or.inr rfl | (exfalso; omega)))
    exact ih (k + 1) (by omega)
theorem m_rules_loop {X : AX} (d : Nat) (a : AC49) (mT : TyT) (mG : TyMG) (mR : TyMR) (mU : TyMU) (n : Int) (mO : TyO) (mS : TyMS) (mN : TyMN) (t : AH) {Q : AQ} {R : PR} (htp : ∀ i, 0 ≤ mT.1 i ∧ mT.1 i ≤ 255)
    (hF : ∀ mP', (R.1 = 1 ∨ R.1 = 2) → FT mP' R.1 R.2.1 n → Q (some (iv (-1))) (CV a (MH mT mG mR mU mP' mO mS mN t)))
    (hS : ∀ mP' p K, R.1 = 0 → mP'.2.2.2.1 = 0 → mP'.2.2.2.2.1 = -1 → inv n 0 0 p K R.2.2 → Q (some (iv R.2.2.2.2.2)) (CV a (MH mT mG mR (cpU mU R.2.2) mP' mO mS mN t))) :
    ∀ (f : Nat) (p K sg : Int) (pb : PB) (z : Int), inv n 0 0 p K pb → n - p < f → prs mT.1 n f 0 p sg pb = R → AW X (d + 7) 0 0 120 31 [rf 49, iv z] [] (CV a (MH mT mG mR mU (pb.1, pb.2.1, pb.2.2.1, 0, -1, p, n, pb.2.2.2) mO mS mN t)) Q := by
  intro f
  induction f using Nat.strongRecOn with
  | _ f ih =>
    intro p K sg pb z hi hfu hR
    have hi' := hi
    obtain ⟨a1, a2, a3, a4, a5, a6⟩ := hi'
    obtain ⟨k1, k2, k3⟩ := sk_ok (tp := mT.1) (n := n) _ p rfl
    have k2' := k2 (by omega)
    have hcl := cnt_le pb.1
    obtain ⟨f1, rfl⟩ : ∃ f1, f = f1 + 1 := ⟨f - 1, by omega⟩
    have ht := htp (sk mT.1 n p)
    refine aw_tree (I0_ok X _) [(false, 49), (true, 24)] [] rfl ?_
    refine aw_cf0 (m_here _ a mT mG mR mU pb.1 pb.2.1 pb.2.2.1 0 (-1) p n pb.2.2.2 mO mS mN t (by omega) htp (by omega)) rfl ?_
    by_cases hq : sk mT.1 n p < n
    · rw [cif_t hq]
      refine aw_tree (I0_ok X _) [(false, 49), (true, 24)] [31, 52] rfl ?_
      dsimp only
      repeat' (first | refine And.intro ?_ ?_ | (refine aImp_e0 ?_; intro _) | (refine aImp_n0 ?_; intro _) | (refine aImp_i ?_; intro _))
      all_goals (try (first | omega | exact bI_01 _ | exact bI_lo _ | exact bI_hi _ | exact bI_hi' _ | exact trivial | exact Or.inl rfl | exact Or.inr rfl | (exfalso; omega)))
      refine aw_ck0 (m_line d a mT mG mR mU n mO mS mN t (f1 + 1) (sk mT.1 n p) K sg pb htp (R := R) ⟨fun mP' hr hft => ?_, fun f' p' K' sg' pb' hf' hi' hfu' hR' => ?_⟩ (inv_S hi (by omega)) (by omega) ?_ (by rw [sk_sk]; exact hq)) rfl
      · refine aw_tree (I0_ok X _) [(false, 49), (true, 24)] [] rfl ?_
        refine aw_ck0 (m_here2 _ a mT mG mR mU mP' mO mS mN t hft (by omega) htp (fun r mP2 hrr hft2 => ?_)) rfl
        have e := hft2.1
        unfold inR at hrr
        refine aw_tree (I0_ok X _) [(false, 49), (true, 24)] [31, 52] rfl ?_
        dsimp only
        repeat' (first | refine And.intro ?_ ?_ | (refine aImp_e0 ?_; intro _) | (refine aImp_n0 ?_; intro _) | (refine aImp_i ?_; intro _))
        all_goals (try (first | omega | exact bI_01 _ | exact bI_lo _ | exact bI_hi _ | exact bI_hi' _ | exact trivial | exact Or.inl rfl | exact Or.inr rfl | (exfalso; omega)))
        all_goals exact hF mP2 hr hft2
      · refine aw_tree (I0_ok X _) [(false, 49), (true, 24)] [31] rfl ?_
        exact ih f' hf' p' K' sg' pb' z hi' hfu' hR'
      · rw [← hR]
        rw [prs, prs, sk_sk]
    · rw [cif_f hq]
      have hE := tk_end (tp := mT.1) (n := n) (q := sk mT.1 n p) (by omega)
      rw [prs_end hE] at hR
      have goal := hS (pb.1, pb.2.1, pb.2.2.1, 0, -1, sk mT.1 n p, n, pb.2.2.2) p K (by rw [← hR]) rfl rfl (by rw [← hR]; exact hi)
      rw [← hR] at goal
      refine aw_tree (I0_ok X _) [(false, 49), (true, 24)] [52] rfl ?_
      dsimp only
      repeat' (first | refine And.intro ?_ ?_ | (refine aImp_e0 ?_; intro _) | (refine aImp_n0 ?_; intro _) | (refine aImp_i ?_; intro _))
      all_goals (try (first | omega | exact bI_01 _ | exact bI_lo _ | exact bI_hi _ | exact bI_hi' _ | exact trivial | exact Or.inl rfl | exact Or.inr rfl | (exfalso; omega)))
      exact m_cp1 _ a mT mG mR mU.1 mU.2.1 mU.2.2.1 (pb.1, pb.2.1, pb.2.2.1, 0, -1, sk mT.1 n p, n, pb.2.2.2) mO mS mN t pb.2.2.2 (by omega) goal 8 0 rfl
theorem m_rules_fill {X : AX} (d : Nat) (a : AC49) (mT : TyT) (mG : TyMG) (mR : TyMR) (mU : TyMU) (nl nm nk : FN) (n : Int) (mO : TyO) (mS : TyMS) (mN : TyMN) (t : AH) {Q : AQ} (hQ : AW X (d + 7) 0 0 120 31 [rf 49, iv 8] [] (CV a (MH mT mG mR mU (fil nl (-1) 8, nm, nk, 0, -1, 0, n, 0) mO mS mN t)) Q) :
    ∀ (m k : Nat), k + m = 8 → AW X (d + 7) 0 0 120 21 [rf 49, iv k] [] (CV a (MH mT mG mR mU (fil nl (-1) k, nm, nk, 0, -1, 0, n, 0) mO mS mN t)) Q := by
  intro m
  induction m with
  | zero =>
    intro k hk
    have e : k = 8 := by omega
    subst e
    refine aw_tree (I0_ok X _) [(false, 49), (true, 24)] [21, 31] rfl ?_
    dsimp only
    repeat' (first | refine And.intro ?_ ?_ | (refine aImp_e0 ?_; intro _) | (refine aImp_n0 ?_; intro _) | (refine aImp_i ?_; intro _))
    all_goals (try (first | omega | exact bI_01 _ | exact bI_lo _ | exact bI_hi _ | exact bI_hi' _ | exact trivial | exact Or.inl rfl | exact Or.inr rfl | (exfalso; omega)))
    exact hQ
  | succ m ih =>
    intro k hk
    refine aw_tree (I0_ok X _) [(false, 49), (true, 24)] [21, 31] rfl ?_
    dsimp only
    repeat' (first | refine And.intro ?_ ?_ | (refine aImp_e0 ?_; intro _) | (refine aImp_n0 ?_; intro _) | (refine aImp_i ?_; intro _))
    all_goals (try (first | omega | exact bI_01 _ | exact bI_lo _ | exact bI_hi _ | exact bI_hi' _ | exact trivial | exact Or.inl rfl | exact Or.inr rfl | (exfalso; omega)))
    exact ih (k + 1) (by omega)
noncomputable def pb0 (q : TyMP) : PB := (fil q.1 (-1) 8, q.2.1, q.2.2.1, 0)
theorem pb0_inv {q : TyMP} {n : Int} (hn : 0 ≤ n ∧ n ≤ 200) : inv n 0 0 0 0 (pb0 q) := by
  refine ⟨by omega, by unfold pb0; dsimp only; omega, ?_, ?_, by omega, ?_⟩
  · have : ∀ k : Int, 0 ≤ k → k < 8 → (pb0 q).1 k = -1 := fun k h0 h1 => fil_lt 8 k h0 h1
    unfold cnt
    rw [this 0 (by omega) (by omega), this 1 (by omega) (by omega), this 2 (by omega) (by omega), this 3 (by omega) (by omega), this 4 (by omega) (by omega), this 5 (by omega) (by omega), this 6 (by omega) (by omega), this 7 (by omega) (by omega)]
    unfold pb0 cn1
    dsimp only
    decide
  · intro k h0 h1
    have : (pb0 q).1 k = -1 := fil_lt 8 k h0 h1
    rw [this]
    unfold pb0
    dsimp only
    omega
  · intro x x0 x1
    unfold pb0 at x1
    dsimp only at x1
    omega
theorem m_rules {X : AX} (d : Nat) (a : AC49) (mT : TyT) (mG : TyMG) (mR : TyMR) (mU : TyMU) (mP : TyMP) (mO : TyO) (mS : TyMS) (mN : TyMN) (t : AH) {Q : AQ} {R : PR} (hT : 0 ≤ mT.2 ∧ mT.2 ≤ 200) (htp : ∀ i, 0 ≤ mT.1 i ∧ mT.1 i ≤ 255) (hR : prs mT.1 mT.2 201 0 0 1 (pb0 mP) = R)
    (hF : ∀ mP', (R.1 = 1 ∨ R.1 = 2) → FT mP' R.1 R.2.1 mT.2 → Q (some (iv (-1))) (CV a (MH (mT.1, 0) mG mR mU mP' mO mS mN t)))
    (hS : ∀ mP' p K, R.1 = 0 → mP'.2.2.2.1 = 0 → mP'.2.2.2.2.1 = -1 → inv mT.2 0 0 p K R.2.2 → Q (some (iv R.2.2.2.2.2)) (CV a (MH (mT.1, 0) mG mR (cpU mU R.2.2) mP' mO mS mN t))) :
    AW X (d + 7) 0 0 120 0 (aEntry 120 [rf 49]) [] (CV a (MH mT mG mR mU mP mO mS mN t)) Q := by
  refine aw_tree (I0_ok X _) [(false, 49), (true, 24)] [21] rfl ?_
  exact m_rules_fill d a (mT.1, 0) mG mR mU mP.1 mP.2.1 mP.2.2.1 mT.2 mO mS mN t (m_rules_loop d a (mT.1, 0) mG mR mU mT.2 mO mS mN t htp hF hS 201 0 0 1 (pb0 mP) 8 (pb0_inv hT) (by omega) hR) 8 0 rfl

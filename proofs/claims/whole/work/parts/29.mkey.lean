/-! ===== the model's reading of rules ===== -/
noncomputable def fil (f : FN) (v : Int) : Nat → FN
  | 0 => f
  | k + 1 => aUp (fil f v k) k v
theorem fil_lt {f : FN} {v : Int} : ∀ (m : Nat) (i : Int), 0 ≤ i → i < m → fil f v m i = v := by
  intro m
  induction m with
  | zero => intro i h0 h1; omega
  | succ m ih =>
    intro i h0 h1
    rw [fil]
    by_cases h : i = m
    · rw [h, aUp_s]
    · rw [aUp_n _ _ h]; exact ih i h0 (by omega)
theorem fil_ge {f : FN} {v : Int} : ∀ (m : Nat) (i : Int), ¬ (0 ≤ i ∧ i < m) → fil f v m i = f i := by
  intro m
  induction m with
  | zero => intro i h; rfl
  | succ m ih =>
    intro i h
    rw [fil, aUp_n _ _ (by omega)]
    exact ih i (by omega)
/-- a fault stands -/
def FT (q : TyMP) (kd pl n : Int) : Prop := q.2.2.2.1 = kd ∧ q.2.2.2.2.1 = pl ∧ (0 ≤ q.2.2.2.2.2.1 ∧ q.2.2.2.2.2.1 ≤ 300) ∧ q.2.2.2.2.2.2.1 = n
theorem m_here2 {X : AX} (d : Nat) (a : AC49) (mT : TyT) (mG : TyMG) (mR : TyMR) (mU : TyMU) (mP : TyMP) (mO : TyO) (mS : TyMS) (mN : TyMN) (t : AH) {Q : AQ} {kd pl n : Int} (hf : FT mP kd pl n) (hn : 0 ≤ n ∧ n ≤ 200) (htp : ∀ i, 0 ≤ mT.1 i ∧ mT.1 i ≤ 255) (hQ : ∀ (r : Int) (mP' : TyMP), inR r → FT mP' kd pl n → Q (some (iv r)) (CV a (MH mT mG mR mU mP' mO mS mN t))) :
    AW X (d + 2) 0 0 114 0 (aEntry 114 [rf 49]) [] (CV a (MH mT mG mR mU mP mO mS mN t)) Q := by
  obtain ⟨nl, nm, nk, fk, fp, p, sz, x⟩ := mP
  obtain ⟨e1, e2, e3, e4⟩ := hf
  dsimp only at e1 e2 e3 e4
  subst e4
  rcases Int.lt_or_le p sz with h | h
  · have k := sk_ok (tp := mT.1) (n := sz) _ p rfl
    refine m_here_loop d a mT mG mR mU nl nm nk fk fp sz x mO mS mN t hn htp _ p e3.1 (by omega) rfl (hQ _ _ ?_ ⟨e1, e2, by have := k.2.1 (by omega); dsimp only; omega, rfl⟩)
    have := htp (sk mT.1 sz p)
    unfold inR
    by_cases hh : sk mT.1 sz p < sz
    · rw [cif_t hh]; omega
    · rw [cif_f hh]; omega
  · have goal := hQ (-1) (nl, nm, nk, fk, fp, p, sz, x) (by unfold inR; omega) ⟨e1, e2, e3, rfl⟩
    refine aw_tree (I0_ok X _) [(false, 49), (true, 24)] [0] rfl ?_
    dsimp only
    repeat' (first | refine And.intro ?_ ?_ | (refine aImp_e0 ?_; intro _) | (refine aImp_n0 ?_; intro _) | (refine aImp_i ?_; intro _))
    all_goals (try (first | omega | exact bI_01 _ | exact bI_lo _ | exact bI_hi _ | exact bI_hi' _ | exact trivial | exact Or.inl rfl | exact Or.inr rfl | (exfalso; omega)))
    all_goals exact goal
theorem m_letter {X : AX} (d : Nat) (a : AC49) (mT : TyT) (mG : TyMG) (mR : TyMR) (mU : TyMU) (nl nm nk : FN) (fp p n x : Int) (mO : TyO) (mS : TyMS) (mN : TyMN) (t : AH) {Q : AQ} (hn : 0 ≤ n ∧ n ≤ 200) (htp : ∀ i, 0 ≤ mT.1 i ∧ mT.1 i ≤ 255) (hp : 0 ≤ p ∧ p ≤ n) (hnl : ∀ k, 0 ≤ k → k < 8 → -1 ≤ nl k ∧ nl k ≤ 8)
    (h1 : 0 ≤ tk mT.1 n (sk mT.1 n p) ∧ tk mT.1 n (sk mT.1 n p) ≤ 7 → nl (tk mT.1 n (sk mT.1 n p)) = -1 → Q none (CV a (MH mT mG mR mU (aUp nl (tk mT.1 n (sk mT.1 n p)) x, nm, nk, 0, fp, nx mT.1 n (sk mT.1 n p), n, x) mO mS mN t)))
    (h2 : 0 ≤ tk mT.1 n (sk mT.1 n p) ∧ tk mT.1 n (sk mT.1 n p) ≤ 7 → ¬ nl (tk mT.1 n (sk mT.1 n p)) = -1 → ∀ mP', FT mP' 2 (sk mT.1 n p) n → Q none (CV a (MH mT mG mR mU mP' mO mS mN t)))
    (h3 : ¬ (0 ≤ tk mT.1 n (sk mT.1 n p) ∧ tk mT.1 n (sk mT.1 n p) ≤ 7) → ∀ mP', FT mP' 1 (sk mT.1 n p) n → Q none (CV a (MH mT mG mR mU mP' mO mS mN t))) :
    AW X (d + 4) 0 0 117 0 (aEntry 117 [rf 49]) [] (CV a (MH mT mG mR mU (nl, nm, nk, 0, fp, p, n, x) mO mS mN t)) Q := by
  obtain ⟨k1, k2, k3⟩ := sk_ok (tp := mT.1) (n := n) _ p rfl
  have k2' := k2 hp.2
  obtain ⟨w1, w2, w3⟩ := wl_ok (tp := mT.1) (n := n) _ (sk mT.1 n p) rfl
  have w2' := w2 k2'
  refine aw_tree (I0_ok X _) [(false, 49), (true, 24)] [] rfl ?_
  refine aw_cf0 (m_wordSize _ a mT mG mR mU nl nm nk 0 fp p n x mO mS mN t hn htp hp) rfl ?_
  have hc := tk_cases mT.1 n (sk mT.1 n p)
  have hnx := @nx_w mT.1 n (sk mT.1 n p)
  generalize sk mT.1 n p = q at *
  have htq := htp q
  by_cases hw : wl mT.1 n q = 1 ∧ mT.1 q ≤ 104
  · have hlt := wl_pos (tp := mT.1) (n := n) (q := q) (by omega)
    have hl2 := hlt.2
    unfold ltr at hl2
    have hk : tk mT.1 n q = mT.1 q - 97 := by rw [tk_1 (by omega) hw.1, cif_t hw.2]
    have hn' : nx mT.1 n q = q + 1 := by rw [hnx (by omega), hw.1]
    rw [hk] at h1 h2 h3
    rw [hn'] at h1
    have hnlk := hnl (mT.1 q - 97) (by omega) (by omega)
    refine aw_tree (I0_ok X _) [(false, 49), (true, 24)] [] rfl ?_
    dsimp only
    repeat' (first | refine And.intro ?_ ?_ | (refine aImp_e0 ?_; intro _) | (refine aImp_n0 ?_; intro _) | (refine aImp_i ?_; intro _))
    all_goals (try (first | omega | exact bI_01 _ | exact bI_lo _ | exact bI_hi _ | exact bI_hi' _ | exact trivial | exact Or.inl rfl | exact Or.inr rfl | (exfalso; omega)))
    · exact h1 (by omega) (by assumption)
    · refine aw_cf0 (m_blame _ a mT mG mR mU (nl, nm, nk, 0, fp, q, n, x) mO mS mN t 2 q rfl) rfl ?_
      refine aw_tree (I0_ok X _) [(false, 49), (true, 24)] [] rfl ?_
      dsimp only
      repeat' (first | refine And.intro ?_ ?_ | (refine aImp_e0 ?_; intro _) | (refine aImp_n0 ?_; intro _) | (refine aImp_i ?_; intro _))
      all_goals (try (first | omega | exact bI_01 _ | exact bI_lo _ | exact bI_hi _ | exact bI_hi' _ | exact trivial | exact Or.inl rfl | exact Or.inr rfl | (exfalso; omega)))
      exact h2 (by omega) (by assumption) (aUp nl (mT.1 q - 97) x, nm, nk, 2, q, q + 1, n, x) ⟨rfl, rfl, by (try dsimp only); omega, rfl⟩
  · have hno : ¬ (0 ≤ tk mT.1 n q ∧ tk mT.1 n q ≤ 7) := by
      rcases hc with h | ⟨_, _, h⟩ | ⟨_, _, h⟩ | ⟨_, _, h⟩ <;> omega
    refine aw_tree (I0_ok X _) [(false, 49), (true, 24)] [] rfl ?_
    dsimp only
    repeat' (first | refine And.intro ?_ ?_ | (refine aImp_e0 ?_; intro _) | (refine aImp_n0 ?_; intro _) | (refine aImp_i ?_; intro _))
    all_goals (try (first | omega | exact bI_01 _ | exact bI_lo _ | exact bI_hi _ | exact bI_hi' _ | exact trivial | exact Or.inl rfl | exact Or.inr rfl | (exfalso; omega)))
    all_goals (
      refine aw_cf0 (m_blame _ a mT mG mR mU (nl, nm, nk, 0, fp, q, n, x) mO mS mN t 1 q rfl) rfl ?_
      refine aw_tree (I0_ok X _) [(false, 49), (true, 24)] [] rfl ?_
      exact h3 hno _ ⟨rfl, rfl, by (try dsimp only); omega, rfl⟩)
set_option maxRecDepth 100000 in
theorem m_key4_put {X : AX} (d : Nat) (a : AC49) (mT : TyT) (mG : TyMG) (mR : TyMR) (mU : TyMU) (nl nm nk : FN) (fp p n x sg s : Int) (mO : TyO) (mS : TyMS) (mN : TyMN) (t : AH) {Q : AQ} (hx : 0 ≤ x ∧ x ≤ 8) (hm : 0 ≤ nm x ∧ nm x ≤ 25) (hs : 1 ≤ s ∧ s ≤ 5) (v2 : AV)
    (h1 : Q none (CV a (MH mT mG mR mU (nl, aUp nm x (nm x + 1), aUp (aUp nk (80 * x + 2 * nm x) s) (80 * x + 2 * nm x + 1) sg, 0, fp, p, n, x) mO mS mN t))) :
    AW X (d + 5) 0 0 118 63 [rf 49, iv sg, v2] [iv s] (CV a (MH mT mG mR mU (nl, nm, nk, 0, fp, p, n, x) mO mS mN t)) Q := by
  refine aw_tree (I0_ok X _) [(false, 49), (true, 24)] [] rfl ?_
  dsimp only
  repeat' (first | refine And.intro ?_ ?_ | (refine aImp_e0 ?_; intro _) | (refine aImp_n0 ?_; intro _) | (refine aImp_i ?_; intro _))
  all_goals (try (first | omega | exact bI_01 _ | exact bI_lo _ | exact bI_hi _ | exact bI_hi' _ | exact trivial | exact Or.inl rfl | exact Or.inr rfl | (exfalso; omega)))
  exact h1
set_option maxRecDepth 100000 in
theorem m_key4_bad {X : AX} (d : Nat) (a : AC49) (mT : TyT) (mG : TyMG) (mR : TyMR) (mU : TyMU) (nl nm nk : FN) (fp p n x sg : Int) (mO : TyO) (mS : TyMS) (mN : TyMN) (t : AH) {Q : AQ} (hx : 0 ≤ x ∧ x ≤ 8) (hm : 0 ≤ nm x ∧ nm x ≤ 25) (hp : 0 ≤ p ∧ p ≤ 200) (v2 : AV)
    (h1 : ∀ mP', FT mP' 1 p n → Q none (CV a (MH mT mG mR mU mP' mO mS mN t))) :
    AW X (d + 5) 0 0 118 63 [rf 49, iv sg, v2] [iv 0] (CV a (MH mT mG mR mU (nl, nm, nk, 0, fp, p, n, x) mO mS mN t)) Q := by
  refine aw_tree (I0_ok X _) [(false, 49), (true, 24)] [] rfl ?_
  dsimp only
  repeat' (first | refine And.intro ?_ ?_ | (refine aImp_e0 ?_; intro _) | (refine aImp_n0 ?_; intro _) | (refine aImp_i ?_; intro _))
  all_goals (try (first | omega | exact bI_01 _ | exact bI_lo _ | exact bI_hi _ | exact bI_hi' _ | exact trivial | exact Or.inl rfl | exact Or.inr rfl | (exfalso; omega)))
  refine aw_cf0 (m_blame _ a mT mG mR mU (nl, nm, nk, 0, fp, p, n, x) mO mS mN t 1 p rfl) rfl ?_
  refine aw_tree (I0_ok X _) [(false, 49), (true, 24)] [] rfl ?_
  dsimp only
  repeat' (first | refine And.intro ?_ ?_ | (refine aImp_e0 ?_; intro _) | (refine aImp_n0 ?_; intro _) | (refine aImp_i ?_; intro _))
  all_goals (try (first | omega | exact bI_01 _ | exact bI_lo _ | exact bI_hi _ | exact bI_hi' _ | exact trivial | exact Or.inl rfl | exact Or.inr rfl | (exfalso; omega)))
  exact h1 (nl, aUp nm x (nm x + 1), aUp (aUp nk (80 * x + 2 * nm x) 0) (80 * x + 2 * nm x + 1) sg, 1, p, p, n, x) ⟨rfl, rfl, by (try dsimp only); omega, rfl⟩
set_option maxRecDepth 100000 in
theorem m_key4 {X : AX} (d : Nat) (a : AC49) (mT : TyT) (mG : TyMG) (mR : TyMR) (mU : TyMU) (nl nm nk : FN) (fp p n x sg : Int) (mO : TyO) (mS : TyMS) (mN : TyMN) (t : AH) {Q : AQ} (hn : 0 ≤ n ∧ n ≤ 200) (htp : ∀ i, 0 ≤ mT.1 i ∧ mT.1 i ≤ 255) (hp : 0 ≤ p ∧ p ≤ n) (hx : 0 ≤ x ∧ x ≤ 8) (hm : 0 ≤ nm x ∧ nm x ≤ 25) (v2 : AV)
    (h1 : 11 ≤ tk mT.1 n (sk mT.1 n p) ∧ tk mT.1 n (sk mT.1 n p) ≤ 15 → Q none (CV a (MH mT mG mR mU (nl, aUp nm x (nm x + 1), aUp (aUp nk (80 * x + 2 * nm x) (tk mT.1 n (sk mT.1 n p) - 10)) (80 * x + 2 * nm x + 1) sg, 0, fp, nx mT.1 n (sk mT.1 n p), n, x) mO mS mN t)))
    (h2 : ¬ (11 ≤ tk mT.1 n (sk mT.1 n p) ∧ tk mT.1 n (sk mT.1 n p) ≤ 15) → ∀ mP', FT mP' 1 (sk mT.1 n p) n → Q none (CV a (MH mT mG mR mU mP' mO mS mN t))) :
    AW X (d + 5) 0 0 118 27 [rf 49, iv sg, v2] [] (CV a (MH mT mG mR mU (nl, nm, nk, 0, fp, p, n, x) mO mS mN t)) Q := by
  obtain ⟨k1, k2, k3⟩ := sk_ok (tp := mT.1) (n := n) _ p rfl
  have k2' := k2 hp.2
  have hc := tk_cases mT.1 n (sk mT.1 n p)
  have hnx := @nx_w mT.1 n (sk mT.1 n p)
  refine aw_tree (I0_ok X _) [(false, 49), (true, 24)] [63] rfl ?_
  refine aw_ck0 (m_passes_da _ a mT mG mR mU nl nm nk 0 fp p n x mO mS mN t hn htp hp (fun hy => ?_) (fun no0 => ?_)) rfl
  · skip
    have e1 := tk_Wda hy
    have e2 : nx mT.1 n (sk mT.1 n p) = sk mT.1 n p + 4 := by rw [hnx (by unfold Wda at hy; omega)]; unfold Wda at hy; omega
    have goal := h1 (by omega)
    rw [e1, e2] at goal
    refine aw_tree (I0_ok X _) [(false, 49), (true, 24)] [63] rfl ?_
    dsimp only
    repeat' (first | refine And.intro ?_ ?_ | (refine aImp_e0 ?_; intro _) | (refine aImp_n0 ?_; intro _) | (refine aImp_i ?_; intro _))
    all_goals (try (first | omega | exact bI_01 _ | exact bI_lo _ | exact bI_hi _ | exact bI_hi' _ | exact trivial | exact Or.inl rfl | exact Or.inr rfl | (exfalso; omega)))
    exact m_key4_put d a mT mG mR mU nl nm nk fp (sk mT.1 n p + 4) n x sg 1 mO mS mN t hx hm (by omega) v2 goal
  refine aw_tree (I0_ok X _) [(false, 49), (true, 24)] [63] rfl ?_
  dsimp only
  repeat' (first | refine And.intro ?_ ?_ | (refine aImp_e0 ?_; intro _) | (refine aImp_n0 ?_; intro _) | (refine aImp_i ?_; intro _))
  all_goals (try (first | omega | exact bI_01 _ | exact bI_lo _ | exact bI_hi _ | exact bI_hi' _ | exact trivial | exact Or.inl rfl | exact Or.inr rfl | (exfalso; omega)))
  refine aw_ck0 (m_passes_ag _ a mT mG mR mU nl nm nk 0 fp (sk mT.1 n p) n x mO mS mN t hn htp (by omega) (fun hy => ?_) (fun no1 => ?_)) rfl
  · rw [sk_sk] at hy ⊢
    have e1 := tk_Wag hy
    have e2 : nx mT.1 n (sk mT.1 n p) = sk mT.1 n p + 3 := by rw [hnx (by unfold Wag at hy; omega)]; unfold Wag at hy; omega
    have goal := h1 (by omega)
    rw [e1, e2] at goal
    refine aw_tree (I0_ok X _) [(false, 49), (true, 24)] [63] rfl ?_
    dsimp only
    repeat' (first | refine And.intro ?_ ?_ | (refine aImp_e0 ?_; intro _) | (refine aImp_n0 ?_; intro _) | (refine aImp_i ?_; intro _))
    all_goals (try (first | omega | exact bI_01 _ | exact bI_lo _ | exact bI_hi _ | exact bI_hi' _ | exact trivial | exact Or.inl rfl | exact Or.inr rfl | (exfalso; omega)))
    exact m_key4_put d a mT mG mR mU nl nm nk fp (sk mT.1 n p + 3) n x sg 2 mO mS mN t hx hm (by omega) v2 goal
  rw [sk_sk] at no1 ⊢
  refine aw_tree (I0_ok X _) [(false, 49), (true, 24)] [63] rfl ?_
  dsimp only
  repeat' (first | refine And.intro ?_ ?_ | (refine aImp_e0 ?_; intro _) | (refine aImp_n0 ?_; intro _) | (refine aImp_i ?_; intro _))
  all_goals (try (first | omega | exact bI_01 _ | exact bI_lo _ | exact bI_hi _ | exact bI_hi' _ | exact trivial | exact Or.inl rfl | exact Or.inr rfl | (exfalso; omega)))
  refine aw_ck0 (m_passes_wo _ a mT mG mR mU nl nm nk 0 fp (sk mT.1 n p) n x mO mS mN t hn htp (by omega) (fun hy => ?_) (fun no2 => ?_)) rfl
  · rw [sk_sk] at hy ⊢
    have e1 := tk_Wwo hy
    have e2 : nx mT.1 n (sk mT.1 n p) = sk mT.1 n p + 5 := by rw [hnx (by unfold Wwo at hy; omega)]; unfold Wwo at hy; omega
    have goal := h1 (by omega)
    rw [e1, e2] at goal
    refine aw_tree (I0_ok X _) [(false, 49), (true, 24)] [63] rfl ?_
    dsimp only
    repeat' (first | refine And.intro ?_ ?_ | (refine aImp_e0 ?_; intro _) | (refine aImp_n0 ?_; intro _) | (refine aImp_i ?_; intro _))
    all_goals (try (first | omega | exact bI_01 _ | exact bI_lo _ | exact bI_hi _ | exact bI_hi' _ | exact trivial | exact Or.inl rfl | exact Or.inr rfl | (exfalso; omega)))
    exact m_key4_put d a mT mG mR mU nl nm nk fp (sk mT.1 n p + 5) n x sg 3 mO mS mN t hx hm (by omega) v2 goal
  rw [sk_sk] at no2 ⊢
  refine aw_tree (I0_ok X _) [(false, 49), (true, 24)] [63] rfl ?_
  dsimp only
  repeat' (first | refine And.intro ?_ ?_ | (refine aImp_e0 ?_; intro _) | (refine aImp_n0 ?_; intro _) | (refine aImp_i ?_; intro _))
  all_goals (try (first | omega | exact bI_01 _ | exact bI_lo _ | exact bI_hi _ | exact bI_hi' _ | exact trivial | exact Or.inl rfl | exact Or.inr rfl | (exfalso; omega)))
  refine aw_ck0 (m_passes_wi _ a mT mG mR mU nl nm nk 0 fp (sk mT.1 n p) n x mO mS mN t hn htp (by omega) (fun hy => ?_) (fun no3 => ?_)) rfl
  · rw [sk_sk] at hy ⊢
    have e1 := tk_Wwi hy
    have e2 : nx mT.1 n (sk mT.1 n p) = sk mT.1 n p + 5 := by rw [hnx (by unfold Wwi at hy; omega)]; unfold Wwi at hy; omega
    have goal := h1 (by omega)
    rw [e1, e2] at goal
    refine aw_tree (I0_ok X _) [(false, 49), (true, 24)] [63] rfl ?_
    dsimp only
    repeat' (first | refine And.intro ?_ ?_ | (refine aImp_e0 ?_; intro _) | (refine aImp_n0 ?_; intro _) | (refine aImp_i ?_; intro _))
    all_goals (try (first | omega | exact bI_01 _ | exact bI_lo _ | exact bI_hi _ | exact bI_hi' _ | exact trivial | exact Or.inl rfl | exact Or.inr rfl | (exfalso; omega)))
    exact m_key4_put d a mT mG mR mU nl nm nk fp (sk mT.1 n p + 5) n x sg 4 mO mS mN t hx hm (by omega) v2 goal
  rw [sk_sk] at no3 ⊢
  refine aw_tree (I0_ok X _) [(false, 49), (true, 24)] [63] rfl ?_
  dsimp only
  repeat' (first | refine And.intro ?_ ?_ | (refine aImp_e0 ?_; intro _) | (refine aImp_n0 ?_; intro _) | (refine aImp_i ?_; intro _))
  all_goals (try (first | omega | exact bI_01 _ | exact bI_lo _ | exact bI_hi _ | exact bI_hi' _ | exact trivial | exact Or.inl rfl | exact Or.inr rfl | (exfalso; omega)))
  refine aw_ck0 (m_passes_ey _ a mT mG mR mU nl nm nk 0 fp (sk mT.1 n p) n x mO mS mN t hn htp (by omega) (fun hy => ?_) (fun no4 => ?_)) rfl
  · rw [sk_sk] at hy ⊢
    have e1 := tk_Wey hy
    have e2 : nx mT.1 n (sk mT.1 n p) = sk mT.1 n p + 3 := by rw [hnx (by unfold Wey at hy; omega)]; unfold Wey at hy; omega
    have goal := h1 (by omega)
    rw [e1, e2] at goal
    refine aw_tree (I0_ok X _) [(false, 49), (true, 24)] [63] rfl ?_
    dsimp only
    repeat' (first | refine And.intro ?_ ?_ | (refine aImp_e0 ?_; intro _) | (refine aImp_n0 ?_; intro _) | (refine aImp_i ?_; intro _))
    all_goals (try (first | omega | exact bI_01 _ | exact bI_lo _ | exact bI_hi _ | exact bI_hi' _ | exact trivial | exact Or.inl rfl | exact Or.inr rfl | (exfalso; omega)))
    exact m_key4_put d a mT mG mR mU nl nm nk fp (sk mT.1 n p + 3) n x sg 5 mO mS mN t hx hm (by omega) v2 goal
  rw [sk_sk] at no4 ⊢
  refine aw_tree (I0_ok X _) [(false, 49), (true, 24)] [63] rfl ?_
  dsimp only
  repeat' (first | refine And.intro ?_ ?_ | (refine aImp_e0 ?_; intro _) | (refine aImp_n0 ?_; intro _) | (refine aImp_i ?_; intro _))
  all_goals (try (first | omega | exact bI_01 _ | exact bI_lo _ | exact bI_hi _ | exact bI_hi' _ | exact trivial | exact Or.inl rfl | exact Or.inr rfl | (exfalso; omega)))
  refine m_key4_bad d a mT mG mR mU nl nm nk fp (sk mT.1 n p) n x sg mO mS mN t hx hm (by omega) v2 (h2 ?_)
  rcases hc with h | ⟨_, _, h⟩ | ⟨_, _, h⟩ | ⟨_, _, h⟩
  · omega
  · omega
  · rcases h with h | h
    · have := wl_pos (tp := mT.1) (n := n) (q := sk mT.1 n p) (by omega)
      omega
    · omega
  · rcases h with h | h | h | h | h | h | h | h | h <;> first | omega | (exfalso; first | exact no0 h.1 | exact no1 h.1 | exact no2 h.1 | exact no3 h.1 | exact no4 h.1)
set_option maxRecDepth 100000 in
theorem m_key {X : AX} (d : Nat) (a : AC49) (mT : TyT) (mG : TyMG) (mR : TyMR) (mU : TyMU) (nl nm nk : FN) (fp p n x : Int) (mO : TyO) (mS : TyMS) (mN : TyMN) (t : AH) {Q : AQ} (hn : 0 ≤ n ∧ n ≤ 200) (htp : ∀ i, 0 ≤ mT.1 i ∧ mT.1 i ≤ 255) (hp : 0 ≤ p ∧ p ≤ n) (hx : 0 ≤ x ∧ x ≤ 8) (hm : 0 ≤ nm x ∧ nm x ≤ 25)
    (h1 : ∀ sg p1, (tk mT.1 n (sk mT.1 n p) = 9 ∧ sg = 1) ∨ (tk mT.1 n (sk mT.1 n p) = 10 ∧ sg = -1) → p1 = nx mT.1 n (sk mT.1 n p) → 11 ≤ tk mT.1 n (sk mT.1 n p1) ∧ tk mT.1 n (sk mT.1 n p1) ≤ 15 → Q none (CV a (MH mT mG mR mU (nl, aUp nm x (nm x + 1), aUp (aUp nk (80 * x + 2 * nm x) (tk mT.1 n (sk mT.1 n p1) - 10)) (80 * x + 2 * nm x + 1) sg, 0, fp, nx mT.1 n (sk mT.1 n p1), n, x) mO mS mN t)))
    (h2 : ∀ sg p1, (tk mT.1 n (sk mT.1 n p) = 9 ∧ sg = 1) ∨ (tk mT.1 n (sk mT.1 n p) = 10 ∧ sg = -1) → p1 = nx mT.1 n (sk mT.1 n p) → ¬ (11 ≤ tk mT.1 n (sk mT.1 n p1) ∧ tk mT.1 n (sk mT.1 n p1) ≤ 15) → ∀ mP', FT mP' 1 (sk mT.1 n p1) n → Q none (CV a (MH mT mG mR mU mP' mO mS mN t)))
    (h3 : ¬ tk mT.1 n (sk mT.1 n p) = 9 → ¬ tk mT.1 n (sk mT.1 n p) = 10 → ∀ mP', FT mP' 1 (sk mT.1 n p) n → Q none (CV a (MH mT mG mR mU mP' mO mS mN t))) :
    AW X (d + 5) 0 0 118 0 (aEntry 118 [rf 49]) [] (CV a (MH mT mG mR mU (nl, nm, nk, 0, fp, p, n, x) mO mS mN t)) Q := by
  obtain ⟨k1, k2, k3⟩ := sk_ok (tp := mT.1) (n := n) _ p rfl
  have k2' := k2 hp.2
  have hc := tk_cases mT.1 n (sk mT.1 n p)
  have hnx := @nx_w mT.1 n (sk mT.1 n p)
  obtain ⟨w1, w2, w3⟩ := wl_ok (tp := mT.1) (n := n) _ (sk mT.1 n p) rfl
  have w2' := w2 k2'
  refine aw_tree (I0_ok X _) [(false, 49), (true, 24)] [27] rfl ?_
  refine aw_ck0 (m_passes_le _ a mT mG mR mU nl nm nk 0 fp p n x mO mS mN t hn htp hp (fun hy => ?_) (fun no0 => ?_)) rfl
  · have e1 := tk_Wle hy
    have e2 : nx mT.1 n (sk mT.1 n p) = sk mT.1 n p + 5 := by rw [hnx (by unfold Wle at hy; omega)]; unfold Wle at hy; omega
    have e3 : sk mT.1 n p + 5 ≤ n := by unfold Wle at hy; omega
    refine aw_tree (I0_ok X _) [(false, 49), (true, 24)] [27] rfl ?_
    dsimp only
    repeat' (first | refine And.intro ?_ ?_ | (refine aImp_e0 ?_; intro _) | (refine aImp_n0 ?_; intro _) | (refine aImp_i ?_; intro _))
    all_goals (try (first | omega | exact bI_01 _ | exact bI_lo _ | exact bI_hi _ | exact bI_hi' _ | exact trivial | exact Or.inl rfl | exact Or.inr rfl | (exfalso; omega)))
    exact m_key4 d a mT mG mR mU nl nm nk fp (sk mT.1 n p + 5) n x 1 mO mS mN t hn htp (by omega) hx hm jk (h1 1 _ (Or.inl ⟨e1, rfl⟩) e2.symm) (h2 1 _ (Or.inl ⟨e1, rfl⟩) e2.symm)
  refine aw_tree (I0_ok X _) [(false, 49), (true, 24)] [27] rfl ?_
  dsimp only
  repeat' (first | refine And.intro ?_ ?_ | (refine aImp_e0 ?_; intro _) | (refine aImp_n0 ?_; intro _) | (refine aImp_i ?_; intro _))
  all_goals (try (first | omega | exact bI_01 _ | exact bI_lo _ | exact bI_hi _ | exact bI_hi' _ | exact trivial | exact Or.inl rfl | exact Or.inr rfl | (exfalso; omega)))
  refine aw_ck0 (m_passes_mo _ a mT mG mR mU nl nm nk 0 fp (sk mT.1 n p) n x mO mS mN t hn htp (by omega) (fun hy => ?_) (fun no1 => ?_)) rfl
  · rw [sk_sk] at hy ⊢
    have e1 := tk_Wmo hy
    have e2 : nx mT.1 n (sk mT.1 n p) = sk mT.1 n p + 4 := by rw [hnx (by unfold Wmo at hy; omega)]; unfold Wmo at hy; omega
    have e3 : sk mT.1 n p + 4 ≤ n := by unfold Wmo at hy; omega
    refine aw_tree (I0_ok X _) [(false, 49), (true, 24)] [27] rfl ?_
    dsimp only
    repeat' (first | refine And.intro ?_ ?_ | (refine aImp_e0 ?_; intro _) | (refine aImp_n0 ?_; intro _) | (refine aImp_i ?_; intro _))
    all_goals (try (first | omega | exact bI_01 _ | exact bI_lo _ | exact bI_hi _ | exact bI_hi' _ | exact trivial | exact Or.inl rfl | exact Or.inr rfl | (exfalso; omega)))
    exact m_key4 d a mT mG mR mU nl nm nk fp (sk mT.1 n p + 4) n x (-1) mO mS mN t hn htp (by omega) hx hm jk (h1 (-1) _ (Or.inr ⟨e1, rfl⟩) e2.symm) (h2 (-1) _ (Or.inr ⟨e1, rfl⟩) e2.symm)
  rw [sk_sk] at no1 ⊢
  have hno : ¬ tk mT.1 n (sk mT.1 n p) = 9 ∧ ¬ tk mT.1 n (sk mT.1 n p) = 10 := by
    rcases hc with h | ⟨_, _, h⟩ | ⟨_, _, h⟩ | ⟨_, _, h⟩
    · omega
    · omega
    · rcases h with h | h
      · have := wl_pos (tp := mT.1) (n := n) (q := sk mT.1 n p) (by omega)
        omega
      · omega
    · rcases h with h | h | h | h | h | h | h | h | h <;> first | omega | (exfalso; first | exact no0 h.1 | exact no1 h.1)
  refine aw_tree (I0_ok X _) [(false, 49), (true, 24)] [27] rfl ?_
  dsimp only
  repeat' (first | refine And.intro ?_ ?_ | (refine aImp_e0 ?_; intro _) | (refine aImp_n0 ?_; intro _) | (refine aImp_i ?_; intro _))
  all_goals (try (first | omega | exact bI_01 _ | exact bI_lo _ | exact bI_hi _ | exact bI_hi' _ | exact trivial | exact Or.inl rfl | exact Or.inr rfl | (exfalso; omega)))
  refine aw_cf0 (m_blame _ a mT mG mR mU (nl, nm, nk, 0, fp, sk mT.1 n p, n, x) mO mS mN t 1 (sk mT.1 n p) rfl) rfl ?_
  refine aw_tree (I0_ok X _) [(false, 49), (true, 24)] [27] rfl ?_
  dsimp only
  repeat' (first | refine And.intro ?_ ?_ | (refine aImp_e0 ?_; intro _) | (refine aImp_n0 ?_; intro _) | (refine aImp_i ?_; intro _))
  all_goals (try (first | omega | exact bI_01 _ | exact bI_lo _ | exact bI_hi _ | exact bI_hi' _ | exact trivial | exact Or.inl rfl | exact Or.inr rfl | (exfalso; omega)))
  exact h3 hno.1 hno.2 (nl, nm, nk, 1, sk mT.1 n p, sk mT.1 n p, n, x) ⟨rfl, rfl, by (try dsimp only); omega, rfl⟩

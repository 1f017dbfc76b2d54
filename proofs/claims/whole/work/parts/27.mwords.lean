/-! ===== the model's reading of words ===== -/
theorem m_blame {X : AX} (d : Nat) (a : AC49) (mT : TyT) (mG : TyMG) (mR : TyMR) (mU : TyMU) (mP : TyMP) (mO : TyO) (mS : TyMS) (mN : TyMN) (t : AH) (k p : Int) (hf : mP.2.2.2.1 = 0) : AF X (d + 2) 0 0 112 [rf 49, iv k, iv p] (CV a (MH mT mG mR mU mP mO mS mN t)) none (CV a (MH mT mG mR mU (mP.1, mP.2.1, mP.2.2.1, k, p, mP.2.2.2.2.2) mO mS mN t)) := by
  refine aw_tree (I0_ok X _) [(false, 49), (true, 24)] [] rfl ?_
  dsimp only
  repeat' (first | refine And.intro ?_ ?_ | (refine aImp_e0 ?_; intro _) | (refine aImp_n0 ?_; intro _) | (refine aImp_i ?_; intro _))
  all_goals (try (first | omega | exact bI_01 _ | exact bI_lo _ | exact bI_hi _ | exact bI_hi' _ | exact trivial | exact Or.inl rfl | exact Or.inr rfl | (exfalso; omega)))
  all_goals rfl
theorem m_here_loop {X : AX} (d : Nat) (a : AC49) (mT : TyT) (mG : TyMG) (mR : TyMR) (mU : TyMU) (nl nm nk : FN) (fk fp n x : Int) (mO : TyO) (mS : TyMS) (mN : TyMN) (t : AH) {Q : AQ} (hn : 0 ≤ n ∧ n ≤ 200) (htp : ∀ i, 0 ≤ mT.1 i ∧ mT.1 i ≤ 255) :
    ∀ (m : Nat) (p : Int), 0 ≤ p → p ≤ n → (n - p).toNat = m → Q (some (iv (cif (sk mT.1 n p < n) (mT.1 (sk mT.1 n p)) (-1)))) (CV a (MH mT mG mR mU (nl, nm, nk, fk, fp, sk mT.1 n p, n, x) mO mS mN t)) → AW X (d + 2) 0 0 114 0 [rf 49] [] (CV a (MH mT mG mR mU (nl, nm, nk, fk, fp, p, n, x) mO mS mN t)) Q := by
  intro m
  induction m with
  | zero =>
    intro p p0 pn hm hQ
    rw [sk_stop (fun h => by omega), cif_f (by omega)] at hQ
    refine aw_tree (I0_ok X _) [(false, 49), (true, 24)] [0] rfl ?_
    dsimp only
    repeat' (first | refine And.intro ?_ ?_ | (refine aImp_e0 ?_; intro _) | (refine aImp_n0 ?_; intro _) | (refine aImp_i ?_; intro _))
    all_goals (try (first | omega | exact bI_01 _ | exact bI_lo _ | exact bI_hi _ | exact bI_hi' _ | exact trivial | exact Or.inl rfl | exact Or.inr rfl | (exfalso; omega)))
    all_goals exact hQ
  | succ m ih =>
    intro p p0 pn hm hQ
    have ht := htp p
    by_cases hb : blk (mT.1 p)
    · rw [sk_step (by omega) hb] at hQ
      unfold blk at hb
      refine aw_tree (I0_ok X _) [(false, 49), (true, 24)] [0] rfl ?_
      dsimp only
      repeat' (first | refine And.intro ?_ ?_ | (refine aImp_e0 ?_; intro _) | (refine aImp_n0 ?_; intro _) | (refine aImp_i ?_; intro _))
      all_goals (try (first | omega | exact bI_01 _ | exact bI_lo _ | exact bI_hi _ | exact bI_hi' _ | exact trivial | exact Or.inl rfl | exact Or.inr rfl | (exfalso; omega)))
      all_goals exact ih (p + 1) (by omega) (by omega) (by omega) hQ
    · rw [sk_stop (fun h => hb h.2), cif_t (by omega)] at hQ
      unfold blk at hb
      refine aw_tree (I0_ok X _) [(false, 49), (true, 24)] [0] rfl ?_
      dsimp only
      repeat' (first | refine And.intro ?_ ?_ | (refine aImp_e0 ?_; intro _) | (refine aImp_n0 ?_; intro _) | (refine aImp_i ?_; intro _))
      all_goals (try (first | omega | exact bI_01 _ | exact bI_lo _ | exact bI_hi _ | exact bI_hi' _ | exact trivial | exact Or.inl rfl | exact Or.inr rfl | (exfalso; omega)))
      all_goals exact hQ
theorem m_here {X : AX} (d : Nat) (a : AC49) (mT : TyT) (mG : TyMG) (mR : TyMR) (mU : TyMU) (nl nm nk : FN) (fk fp p n x : Int) (mO : TyO) (mS : TyMS) (mN : TyMN) (t : AH) (hn : 0 ≤ n ∧ n ≤ 200) (htp : ∀ i, 0 ≤ mT.1 i ∧ mT.1 i ≤ 255) (hp : 0 ≤ p ∧ p ≤ n) :
    AF X (d + 2) 0 0 114 [rf 49] (CV a (MH mT mG mR mU (nl, nm, nk, fk, fp, p, n, x) mO mS mN t)) (some (iv (cif (sk mT.1 n p < n) (mT.1 (sk mT.1 n p)) (-1)))) (CV a (MH mT mG mR mU (nl, nm, nk, fk, fp, sk mT.1 n p, n, x) mO mS mN t)) :=
  m_here_loop d a mT mG mR mU nl nm nk fk fp n x mO mS mN t hn htp _ p hp.1 hp.2 rfl ⟨rfl, rfl⟩
theorem m_ws_loop {X : AX} (d : Nat) (a : AC49) (mT : TyT) (mG : TyMG) (mR : TyMR) (mU : TyMU) (nl nm nk : FN) (fk fp n x q : Int) (mO : TyO) (mS : TyMS) (mN : TyMN) (t : AH) {Q : AQ} (hn : 0 ≤ n ∧ n ≤ 200) (htp : ∀ i, 0 ≤ mT.1 i ∧ mT.1 i ≤ 255) (hq : 0 ≤ q ∧ q ≤ n) (hQ : Q (some (iv (wl mT.1 n q))) (CV a (MH mT mG mR mU (nl, nm, nk, fk, fp, q, n, x) mO mS mN t))) :
    ∀ (m : Nat) (k : Int), 0 ≤ k → q + k ≤ n → (n - (q + k)).toNat = m → wl mT.1 n q = k + wl mT.1 n (q + k) → AW X (d + 3) 0 0 115 5 [rf 49, iv k] [] (CV a (MH mT mG mR mU (nl, nm, nk, fk, fp, q, n, x) mO mS mN t)) Q := by
  intro m
  induction m with
  | zero =>
    intro k k0 kn hm hk
    have h0 : wl mT.1 n (q + k) = 0 := wl_stop (fun h => by omega)
    have e : wl mT.1 n q = k := by omega
    rw [e] at hQ
    refine aw_tree (I0_ok X _) [(false, 49), (true, 24)] [5] rfl ?_
    dsimp only
    repeat' (first | refine And.intro ?_ ?_ | (refine aImp_e0 ?_; intro _) | (refine aImp_n0 ?_; intro _) | (refine aImp_i ?_; intro _))
    all_goals (try (first | omega | exact bI_01 _ | exact bI_lo _ | exact bI_hi _ | exact bI_hi' _ | exact trivial | exact Or.inl rfl | exact Or.inr rfl | (exfalso; omega)))
    all_goals exact hQ
  | succ m ih =>
    intro k k0 kn hm hk
    have ht := htp (q + k)
    by_cases hb : ltr (mT.1 (q + k))
    · have hk' := wl_step (tp := mT.1) (n := n) (q := q + k) (by omega) hb
      unfold ltr at hb
      refine aw_tree (I0_ok X _) [(false, 49), (true, 24)] [5] rfl ?_
      dsimp only
      repeat' (first | refine And.intro ?_ ?_ | (refine aImp_e0 ?_; intro _) | (refine aImp_n0 ?_; intro _) | (refine aImp_i ?_; intro _))
      all_goals (try (first | omega | exact bI_01 _ | exact bI_lo _ | exact bI_hi _ | exact bI_hi' _ | exact trivial | exact Or.inl rfl | exact Or.inr rfl | (exfalso; omega)))
      refine ih (k + 1) (by omega) (by omega) (by omega) ?_
      rw [show q + (k + 1) = q + k + 1 from by omega]
      omega
    · have h0 : wl mT.1 n (q + k) = 0 := wl_stop (fun h => hb h.2)
      have e : wl mT.1 n q = k := by omega
      rw [e] at hQ
      unfold ltr at hb
      refine aw_tree (I0_ok X _) [(false, 49), (true, 24)] [5] rfl ?_
      dsimp only
      repeat' (first | refine And.intro ?_ ?_ | (refine aImp_e0 ?_; intro _) | (refine aImp_n0 ?_; intro _) | (refine aImp_i ?_; intro _))
      all_goals (try (first | omega | exact bI_01 _ | exact bI_lo _ | exact bI_hi _ | exact bI_hi' _ | exact trivial | exact Or.inl rfl | exact Or.inr rfl | (exfalso; omega)))
      all_goals exact hQ
theorem m_wordSize {X : AX} (d : Nat) (a : AC49) (mT : TyT) (mG : TyMG) (mR : TyMR) (mU : TyMU) (nl nm nk : FN) (fk fp p n x : Int) (mO : TyO) (mS : TyMS) (mN : TyMN) (t : AH) (hn : 0 ≤ n ∧ n ≤ 200) (htp : ∀ i, 0 ≤ mT.1 i ∧ mT.1 i ≤ 255) (hp : 0 ≤ p ∧ p ≤ n) :
    AF X (d + 3) 0 0 115 [rf 49] (CV a (MH mT mG mR mU (nl, nm, nk, fk, fp, p, n, x) mO mS mN t)) (some (iv (wl mT.1 n (sk mT.1 n p)))) (CV a (MH mT mG mR mU (nl, nm, nk, fk, fp, sk mT.1 n p, n, x) mO mS mN t)) := by
  obtain ⟨k1, k2, k3⟩ := sk_ok (tp := mT.1) (n := n) _ p rfl
  have k2' := k2 hp.2
  refine aw_tree (I0_ok X _) [(false, 49), (true, 24)] [5] rfl ?_
  refine aw_cf0 (m_here _ a mT mG mR mU nl nm nk fk fp p n x mO mS mN t hn htp hp) rfl ?_
  refine aw_tree (I0_ok X _) [(false, 49), (true, 24)] [5] rfl ?_
  exact m_ws_loop d a mT mG mR mU nl nm nk fk fp n x (sk mT.1 n p) mO mS mN t hn htp (by omega) ⟨rfl, rfl⟩ _ 0 (by omega) (by omega) rfl (by rw [Int.add_zero, Int.zero_add])
theorem m_pl {X : AX} (d : Nat) (a : AC49) (mT : TyT) (mG : TyMG) (mR : TyMR) (mU : TyMU) (nl nm nk : FN) (fk fp n x q : Int) (mO : TyO) (mS : TyMS) (mN : TyMN) (t : AH) {Q : AQ} (z l : Int) (b : Int → Int) (hl : 1 ≤ l ∧ l ≤ 8) (hq : 0 ≤ q ∧ q + l ≤ 200) (e : ∀ k, 0 ≤ k → k < l → l2iI (lAnd (lUshr z (8 * (l - 1 - k))) ((255 : Nat) : Int)) = b k) (hb : ∀ k, 0 ≤ k → k < l → 0 ≤ b k ∧ b k ≤ 255) (htp : ∀ i, 0 ≤ mT.1 i ∧ mT.1 i ≤ 255)
    (h1 : (∀ k, 0 ≤ k → k < l → mT.1 (q + k) = b k) → Q (some (iv 1)) (CV a (MH mT mG mR mU (nl, nm, nk, fk, fp, q + l, n, x) mO mS mN t))) (h0 : ¬ (∀ k, 0 ≤ k → k < l → mT.1 (q + k) = b k) → Q (some (iv 0)) (CV a (MH mT mG mR mU (nl, nm, nk, fk, fp, q + 0, n, x) mO mS mN t))) :
    ∀ (m : Nat) (k s : Int), k + m = l → 0 ≤ k → (s = 0 ∨ s = 1) → (s = 1 → ∀ i, 0 ≤ i → i < k → mT.1 (q + i) = b i) → (s = 0 → ¬ (∀ i, 0 ≤ i → i < l → mT.1 (q + i) = b i)) → AW X (d + 4) 0 0 116 10 [rf 49, .inr (.inl z), jk, iv l, iv s, iv k] [] (CV a (MH mT mG mR mU (nl, nm, nk, fk, fp, q, n, x) mO mS mN t)) Q := by
  intro m
  induction m with
  | zero =>
    intro k s hk k0 hs hs1 hs0
    rcases hs with rfl | rfl
    · have goal := h0 (hs0 rfl)
      refine aw_tree (I0_ok X _) [(false, 49), (true, 24)] [10] rfl ?_
      dsimp only
      repeat' (first | refine And.intro ?_ ?_ | (refine aImp_e0 ?_; intro _) | (refine aImp_n0 ?_; intro _) | (refine aImp_i ?_; intro _))
      all_goals (try (first | omega | exact bI_01 _ | exact bI_lo _ | exact bI_hi _ | exact bI_hi' _ | exact trivial | exact Or.inl rfl | exact Or.inr rfl | (exfalso; omega)))
      exact goal
    · have goal := h1 (fun i i0 i1 => hs1 rfl i i0 (by omega))
      refine aw_tree (I0_ok X _) [(false, 49), (true, 24)] [10] rfl ?_
      dsimp only
      repeat' (first | refine And.intro ?_ ?_ | (refine aImp_e0 ?_; intro _) | (refine aImp_n0 ?_; intro _) | (refine aImp_i ?_; intro _))
      all_goals (try (first | omega | exact bI_01 _ | exact bI_lo _ | exact bI_hi _ | exact bI_hi' _ | exact trivial | exact Or.inl rfl | exact Or.inr rfl | (exfalso; omega)))
      exact goal
  | succ m ih =>
    intro k s hk k0 hs hs1 hs0
    have hbe := e k k0 (by omega)
    have hbr := hb k k0 (by omega)
    have hrk := htp (q + k)
    refine aw_tree (I0_ok X _) [(false, 49), (true, 24)] [10] rfl ?_
    rw [hbe]
    dsimp only
    repeat' (first | refine And.intro ?_ ?_ | (refine aImp_e0 ?_; intro _) | (refine aImp_n0 ?_; intro _) | (refine aImp_i ?_; intro _))
    all_goals (try (first | omega | exact bI_01 _ | exact bI_lo _ | exact bI_hi _ | exact bI_hi' _ | exact trivial | exact Or.inl rfl | exact Or.inr rfl | (exfalso; omega)))
    · refine ih (k + 1) 0 (by omega) (by omega) (Or.inl rfl) (fun h => by omega) (fun _ => hs0 (by assumption))
    · next hne => exact ih (k + 1) 0 (by omega) (by omega) (Or.inl rfl) (fun h => by omega) (fun _ h => hne (h k k0 (by omega)))
    · next he =>
      refine ih (k + 1) 1 (by omega) (by omega) (Or.inr rfl) (fun _ i i0 i1 => ?_) (fun h => by omega)
      by_cases hi : i = k
      · rw [hi]; exact he
      · exact hs1 (by omega) i i0 (by omega)
theorem m_passes_by {X : AX} (d : Nat) (a : AC49) (mT : TyT) (mG : TyMG) (mR : TyMR) (mU : TyMU) (nl nm nk : FN) (fk fp p n x : Int) (mO : TyO) (mS : TyMS) (mN : TyMN) (t : AH) {Q : AQ} (hn : 0 ≤ n ∧ n ≤ 200) (htp : ∀ i, 0 ≤ mT.1 i ∧ mT.1 i ≤ 255) (hp : 0 ≤ p ∧ p ≤ n)
    (h1 : Wby mT.1 n (sk mT.1 n p) → Q (some (iv 1)) (CV a (MH mT mG mR mU (nl, nm, nk, fk, fp, sk mT.1 n p + 2, n, x) mO mS mN t))) (h0 : ¬ Wby mT.1 n (sk mT.1 n p) → Q (some (iv 0)) (CV a (MH mT mG mR mU (nl, nm, nk, fk, fp, sk mT.1 n p, n, x) mO mS mN t))) :
    AW X (d + 4) 0 0 116 0 (aEntry 116 [rf 49, .inr (.inl 25209), iv 2]) [] (CV a (MH mT mG mR mU (nl, nm, nk, fk, fp, p, n, x) mO mS mN t)) Q := by
  obtain ⟨k1, k2, k3⟩ := sk_ok (tp := mT.1) (n := n) _ p rfl
  have k2' := k2 hp.2
  obtain ⟨w1, w2, w3⟩ := wl_ok (tp := mT.1) (n := n) _ (sk mT.1 n p) rfl
  have w2' := w2 k2'
  refine aw_tree (I0_ok X _) [(false, 49), (true, 24)] [10] rfl ?_
  refine aw_cf0 (m_wordSize _ a mT mG mR mU nl nm nk fk fp p n x mO mS mN t hn htp hp) rfl ?_
  generalize sk mT.1 n p = q at *
  refine aw_tree (I0_ok X _) [(false, 49), (true, 24)] [10] rfl ?_
  dsimp only
  repeat' (first | refine And.intro ?_ ?_ | (refine aImp_e0 ?_; intro _) | (refine aImp_n0 ?_; intro _) | (refine aImp_i ?_; intro _))
  all_goals (try (first | omega | exact bI_01 _ | exact bI_lo _ | exact bI_hi _ | exact bI_hi' _ | exact trivial | exact Or.inl rfl | exact Or.inr rfl | (exfalso; omega)))
  · next hw =>
    refine m_pl d a mT mG mR mU nl nm nk fk fp n x q mO mS mN t 25209 2 (fun k => ([98, 121] : List Int).getD k.toNat 0) (by omega) (by omega) (fun k k0 k1 => ?_) (fun k k0 k1 => ?_) htp (fun hy => ?_) (fun hy => ?_) 2 0 1 (by omega) (by omega) (Or.inr rfl) (fun _ i i0 i1 => by omega) (fun h => by omega)
    · have : k = 0 ∨ k = 1 := by omega
      rcases this with rfl | rfl <;> decide +kernel
    · have : k = 0 ∨ k = 1 := by omega
      rcases this with rfl | rfl <;> decide
    · refine h1 ⟨hw, ?_⟩
      have y0 : mT.1 (q + 0) = 98 := hy 0 (by omega) (by omega)
      have y1 : mT.1 (q + 1) = 121 := hy 1 (by omega) (by omega)
      rw [Int.add_zero] at y0
      exact ⟨y0, y1⟩
    · have goal := h0 (fun hw' => hy (fun k k0 k1 => by
        obtain ⟨_, y0, y1⟩ := hw'
        rw [← Int.add_zero q] at y0
        have : k = 0 ∨ k = 1 := by omega
        rcases this with rfl | rfl
        · rw [Int.add_zero] at y0 ⊢; exact y0
        · exact y1))
      rw [Int.add_zero]
      exact goal
  · next hw => exact h0 (fun h => hw h.1)
theorem m_passes_le {X : AX} (d : Nat) (a : AC49) (mT : TyT) (mG : TyMG) (mR : TyMR) (mU : TyMU) (nl nm nk : FN) (fk fp p n x : Int) (mO : TyO) (mS : TyMS) (mN : TyMN) (t : AH) {Q : AQ} (hn : 0 ≤ n ∧ n ≤ 200) (htp : ∀ i, 0 ≤ mT.1 i ∧ mT.1 i ≤ 255) (hp : 0 ≤ p ∧ p ≤ n)
    (h1 : Wle mT.1 n (sk mT.1 n p) → Q (some (iv 1)) (CV a (MH mT mG mR mU (nl, nm, nk, fk, fp, sk mT.1 n p + 5, n, x) mO mS mN t))) (h0 : ¬ Wle mT.1 n (sk mT.1 n p) → Q (some (iv 0)) (CV a (MH mT mG mR mU (nl, nm, nk, fk, fp, sk mT.1 n p, n, x) mO mS mN t))) :
    AW X (d + 4) 0 0 116 0 (aEntry 116 [rf 49, .inr (.inl 465557353332), iv 5]) [] (CV a (MH mT mG mR mU (nl, nm, nk, fk, fp, p, n, x) mO mS mN t)) Q := by
  obtain ⟨k1, k2, k3⟩ := sk_ok (tp := mT.1) (n := n) _ p rfl
  have k2' := k2 hp.2
  obtain ⟨w1, w2, w3⟩ := wl_ok (tp := mT.1) (n := n) _ (sk mT.1 n p) rfl
  have w2' := w2 k2'
  refine aw_tree (I0_ok X _) [(false, 49), (true, 24)] [10] rfl ?_
  refine aw_cf0 (m_wordSize _ a mT mG mR mU nl nm nk fk fp p n x mO mS mN t hn htp hp) rfl ?_
  generalize sk mT.1 n p = q at *
  refine aw_tree (I0_ok X _) [(false, 49), (true, 24)] [10] rfl ?_
  dsimp only
  repeat' (first | refine And.intro ?_ ?_ | (refine aImp_e0 ?_; intro _) | (refine aImp_n0 ?_; intro _) | (refine aImp_i ?_; intro _))
  all_goals (try (first | omega | exact bI_01 _ | exact bI_lo _ | exact bI_hi _ | exact bI_hi' _ | exact trivial | exact Or.inl rfl | exact Or.inr rfl | (exfalso; omega)))
  · next hw =>
    refine m_pl d a mT mG mR mU nl nm nk fk fp n x q mO mS mN t 465557353332 5 (fun k => ([108, 101, 97, 115, 116] : List Int).getD k.toNat 0) (by omega) (by omega) (fun k k0 k1 => ?_) (fun k k0 k1 => ?_) htp (fun hy => ?_) (fun hy => ?_) 5 0 1 (by omega) (by omega) (Or.inr rfl) (fun _ i i0 i1 => by omega) (fun h => by omega)
    · have : k = 0 ∨ k = 1 ∨ k = 2 ∨ k = 3 ∨ k = 4 := by omega
      rcases this with rfl | rfl | rfl | rfl | rfl <;> decide +kernel
    · have : k = 0 ∨ k = 1 ∨ k = 2 ∨ k = 3 ∨ k = 4 := by omega
      rcases this with rfl | rfl | rfl | rfl | rfl <;> decide
    · refine h1 ⟨hw, ?_⟩
      have y0 : mT.1 (q + 0) = 108 := hy 0 (by omega) (by omega)
      have y1 : mT.1 (q + 1) = 101 := hy 1 (by omega) (by omega)
      have y2 : mT.1 (q + 2) = 97 := hy 2 (by omega) (by omega)
      have y3 : mT.1 (q + 3) = 115 := hy 3 (by omega) (by omega)
      have y4 : mT.1 (q + 4) = 116 := hy 4 (by omega) (by omega)
      rw [Int.add_zero] at y0
      exact ⟨y0, y1, y2, y3, y4⟩
    · have goal := h0 (fun hw' => hy (fun k k0 k1 => by
        obtain ⟨_, y0, y1, y2, y3, y4⟩ := hw'
        rw [← Int.add_zero q] at y0
        have : k = 0 ∨ k = 1 ∨ k = 2 ∨ k = 3 ∨ k = 4 := by omega
        rcases this with rfl | rfl | rfl | rfl | rfl
        · rw [Int.add_zero] at y0 ⊢; exact y0
        · exact y1
        · exact y2
        · exact y3
        · exact y4))
      rw [Int.add_zero]
      exact goal
  · next hw => exact h0 (fun h => hw h.1)
theorem m_passes_mo {X : AX} (d : Nat) (a : AC49) (mT : TyT) (mG : TyMG) (mR : TyMR) (mU : TyMU) (nl nm nk : FN) (fk fp p n x : Int) (mO : TyO) (mS : TyMS) (mN : TyMN) (t : AH) {Q : AQ} (hn : 0 ≤ n ∧ n ≤ 200) (htp : ∀ i, 0 ≤ mT.1 i ∧ mT.1 i ≤ 255) (hp : 0 ≤ p ∧ p ≤ n)
    (h1 : Wmo mT.1 n (sk mT.1 n p) → Q (some (iv 1)) (CV a (MH mT mG mR mU (nl, nm, nk, fk, fp, sk mT.1 n p + 4, n, x) mO mS mN t))) (h0 : ¬ Wmo mT.1 n (sk mT.1 n p) → Q (some (iv 0)) (CV a (MH mT mG mR mU (nl, nm, nk, fk, fp, sk mT.1 n p, n, x) mO mS mN t))) :
    AW X (d + 4) 0 0 116 0 (aEntry 116 [rf 49, .inr (.inl 1836020596), iv 4]) [] (CV a (MH mT mG mR mU (nl, nm, nk, fk, fp, p, n, x) mO mS mN t)) Q := by
  obtain ⟨k1, k2, k3⟩ := sk_ok (tp := mT.1) (n := n) _ p rfl
  have k2' := k2 hp.2
  obtain ⟨w1, w2, w3⟩ := wl_ok (tp := mT.1) (n := n) _ (sk mT.1 n p) rfl
  have w2' := w2 k2'
  refine aw_tree (I0_ok X _) [(false, 49), (true, 24)] [10] rfl ?_
  refine aw_cf0 (m_wordSize _ a mT mG mR mU nl nm nk fk fp p n x mO mS mN t hn htp hp) rfl ?_
  generalize sk mT.1 n p = q at *
  refine aw_tree (I0_ok X _) [(false, 49), (true, 24)] [10] rfl ?_
  dsimp only
  repeat' (first | refine And.intro ?_ ?_ | (refine aImp_e0 ?_; intro _) | (refine aImp_n0 ?_; intro _) | (refine aImp_i ?_; intro _))
  all_goals (try (first | omega | exact bI_01 _ | exact bI_lo _ | exact bI_hi _ | exact bI_hi' _ | exact trivial | exact Or.inl rfl | exact Or.inr rfl | (exfalso; omega)))
  · next hw =>
    refine m_pl d a mT mG mR mU nl nm nk fk fp n x q mO mS mN t 1836020596 4 (fun k => ([109, 111, 115, 116] : List Int).getD k.toNat 0) (by omega) (by omega) (fun k k0 k1 => ?_) (fun k k0 k1 => ?_) htp (fun hy => ?_) (fun hy => ?_) 4 0 1 (by omega) (by omega) (Or.inr rfl) (fun _ i i0 i1 => by omega) (fun h => by omega)
    · have : k = 0 ∨ k = 1 ∨ k = 2 ∨ k = 3 := by omega
      rcases this with rfl | rfl | rfl | rfl <;> decide +kernel
    · have : k = 0 ∨ k = 1 ∨ k = 2 ∨ k = 3 := by omega
      rcases this with rfl | rfl | rfl | rfl <;> decide
    · refine h1 ⟨hw, ?_⟩
      have y0 : mT.1 (q + 0) = 109 := hy 0 (by omega) (by omega)
      have y1 : mT.1 (q + 1) = 111 := hy 1 (by omega) (by omega)
      have y2 : mT.1 (q + 2) = 115 := hy 2 (by omega) (by omega)
      have y3 : mT.1 (q + 3) = 116 := hy 3 (by omega) (by omega)
      rw [Int.add_zero] at y0
      exact ⟨y0, y1, y2, y3⟩
    · have goal := h0 (fun hw' => hy (fun k k0 k1 => by
        obtain ⟨_, y0, y1, y2, y3⟩ := hw'
        rw [← Int.add_zero q] at y0
        have : k = 0 ∨ k = 1 ∨ k = 2 ∨ k = 3 := by omega
        rcases this with rfl | rfl | rfl | rfl
        · rw [Int.add_zero] at y0 ⊢; exact y0
        · exact y1
        · exact y2
        · exact y3))
      rw [Int.add_zero]
      exact goal
  · next hw => exact h0 (fun h => hw h.1)
theorem m_passes_da {X : AX} (d : Nat) (a : AC49) (mT : TyT) (mG : TyMG) (mR : TyMR) (mU : TyMU) (nl nm nk : FN) (fk fp p n x : Int) (mO : TyO) (mS : TyMS) (mN : TyMN) (t : AH) {Q : AQ} (hn : 0 ≤ n ∧ n ≤ 200) (htp : ∀ i, 0 ≤ mT.1 i ∧ mT.1 i ≤ 255) (hp : 0 ≤ p ∧ p ≤ n)
    (h1 : Wda mT.1 n (sk mT.1 n p) → Q (some (iv 1)) (CV a (MH mT mG mR mU (nl, nm, nk, fk, fp, sk mT.1 n p + 4, n, x) mO mS mN t))) (h0 : ¬ Wda mT.1 n (sk mT.1 n p) → Q (some (iv 0)) (CV a (MH mT mG mR mU (nl, nm, nk, fk, fp, sk mT.1 n p, n, x) mO mS mN t))) :
    AW X (d + 4) 0 0 116 0 (aEntry 116 [rf 49, .inr (.inl 1684108389), iv 4]) [] (CV a (MH mT mG mR mU (nl, nm, nk, fk, fp, p, n, x) mO mS mN t)) Q := by
  obtain ⟨k1, k2, k3⟩ := sk_ok (tp := mT.1) (n := n) _ p rfl
  have k2' := k2 hp.2
  obtain ⟨w1, w2, w3⟩ := wl_ok (tp := mT.1) (n := n) _ (sk mT.1 n p) rfl
  have w2' := w2 k2'
  refine aw_tree (I0_ok X _) [(false, 49), (true, 24)] [10] rfl ?_
  refine aw_cf0 (m_wordSize _ a mT mG mR mU nl nm nk fk fp p n x mO mS mN t hn htp hp) rfl ?_
  generalize sk mT.1 n p = q at *
  refine aw_tree (I0_ok X _) [(false, 49), (true, 24)] [10] rfl ?_
  dsimp only
  repeat' (first | refine And.intro ?_ ?_ | (refine aImp_e0 ?_; intro _) | (refine aImp_n0 ?_; intro _) | (refine aImp_i ?_; intro _))
  all_goals (try (first | omega | exact bI_01 _ | exact bI_lo _ | exact bI_hi _ | exact bI_hi' _ | exact trivial | exact Or.inl rfl | exact Or.inr rfl | (exfalso; omega)))
  · next hw =>
    refine m_pl d a mT mG mR mU nl nm nk fk fp n x q mO mS mN t 1684108389 4 (fun k => ([100, 97, 116, 101] : List Int).getD k.toNat 0) (by omega) (by omega) (fun k k0 k1 => ?_) (fun k k0 k1 => ?_) htp (fun hy => ?_) (fun hy => ?_) 4 0 1 (by omega) (by omega) (Or.inr rfl) (fun _ i i0 i1 => by omega) (fun h => by omega)
    · have : k = 0 ∨ k = 1 ∨ k = 2 ∨ k = 3 := by omega
      rcases this with rfl | rfl | rfl | rfl <;> decide +kernel
    · have : k = 0 ∨ k = 1 ∨ k = 2 ∨ k = 3 := by omega
      rcases this with rfl | rfl | rfl | rfl <;> decide
    · refine h1 ⟨hw, ?_⟩
      have y0 : mT.1 (q + 0) = 100 := hy 0 (by omega) (by omega)
      have y1 : mT.1 (q + 1) = 97 := hy 1 (by omega) (by omega)
      have y2 : mT.1 (q + 2) = 116 := hy 2 (by omega) (by omega)
      have y3 : mT.1 (q + 3) = 101 := hy 3 (by omega) (by omega)
      rw [Int.add_zero] at y0
      exact ⟨y0, y1, y2, y3⟩
    · have goal := h0 (fun hw' => hy (fun k k0 k1 => by
        obtain ⟨_, y0, y1, y2, y3⟩ := hw'
        rw [← Int.add_zero q] at y0
        have : k = 0 ∨ k = 1 ∨ k = 2 ∨ k = 3 := by omega
        rcases this with rfl | rfl | rfl | rfl
        · rw [Int.add_zero] at y0 ⊢; exact y0
        · exact y1
        · exact y2
        · exact y3))
      rw [Int.add_zero]
      exact goal
  · next hw => exact h0 (fun h => hw h.1)
theorem m_passes_ag {X : AX} (d : Nat) (a : AC49) (mT : TyT) (mG : TyMG) (mR : TyMR) (mU : TyMU) (nl nm nk : FN) (fk fp p n x : Int) (mO : TyO) (mS : TyMS) (mN : TyMN) (t : AH) {Q : AQ} (hn : 0 ≤ n ∧ n ≤ 200) (htp : ∀ i, 0 ≤ mT.1 i ∧ mT.1 i ≤ 255) (hp : 0 ≤ p ∧ p ≤ n)
    (h1 : Wag mT.1 n (sk mT.1 n p) → Q (some (iv 1)) (CV a (MH mT mG mR mU (nl, nm, nk, fk, fp, sk mT.1 n p + 3, n, x) mO mS mN t))) (h0 : ¬ Wag mT.1 n (sk mT.1 n p) → Q (some (iv 0)) (CV a (MH mT mG mR mU (nl, nm, nk, fk, fp, sk mT.1 n p, n, x) mO mS mN t))) :
    AW X (d + 4) 0 0 116 0 (aEntry 116 [rf 49, .inr (.inl 6383461), iv 3]) [] (CV a (MH mT mG mR mU (nl, nm, nk, fk, fp, p, n, x) mO mS mN t)) Q := by
  obtain ⟨k1, k2, k3⟩ := sk_ok (tp := mT.1) (n := n) _ p rfl
  have k2' := k2 hp.2
  obtain ⟨w1, w2, w3⟩ := wl_ok (tp := mT.1) (n := n) _ (sk mT.1 n p) rfl
  have w2' := w2 k2'
  refine aw_tree (I0_ok X _) [(false, 49), (true, 24)] [10] rfl ?_
  refine aw_cf0 (m_wordSize _ a mT mG mR mU nl nm nk fk fp p n x mO mS mN t hn htp hp) rfl ?_
  generalize sk mT.1 n p = q at *
  refine aw_tree (I0_ok X _) [(false, 49), (true, 24)] [10] rfl ?_
  dsimp only
  repeat' (first | refine And.intro ?_ ?_ | (refine aImp_e0 ?_; intro _) | (refine aImp_n0 ?_; intro _) | (refine aImp_i ?_; intro _))
  all_goals (try (first | omega | exact bI_01 _ | exact bI_lo _ | exact bI_hi _ | exact bI_hi' _ | exact trivial | exact Or.inl rfl | exact Or.inr rfl | (exfalso; omega)))
  · next hw =>
    refine m_pl d a mT mG mR mU nl nm nk fk fp n x q mO mS mN t 6383461 3 (fun k => ([97, 103, 101] : List Int).getD k.toNat 0) (by omega) (by omega) (fun k k0 k1 => ?_) (fun k k0 k1 => ?_) htp (fun hy => ?_) (fun hy => ?_) 3 0 1 (by omega) (by omega) (Or.inr rfl) (fun _ i i0 i1 => by omega) (fun h => by omega)
    · have : k = 0 ∨ k = 1 ∨ k = 2 := by omega
      rcases this with rfl | rfl | rfl <;> decide +kernel
    · have : k = 0 ∨ k = 1 ∨ k = 2 := by omega
      rcases this with rfl | rfl | rfl <;> decide
    · refine h1 ⟨hw, ?_⟩
      have y0 : mT.1 (q + 0) = 97 := hy 0 (by omega) (by omega)
      have y1 : mT.1 (q + 1) = 103 := hy 1 (by omega) (by omega)
      have y2 : mT.1 (q + 2) = 101 := hy 2 (by omega) (by omega)
      rw [Int.add_zero] at y0
      exact ⟨y0, y1, y2⟩
    · have goal := h0 (fun hw' => hy (fun k k0 k1 => by
        obtain ⟨_, y0, y1, y2⟩ := hw'
        rw [← Int.add_zero q] at y0
        have : k = 0 ∨ k = 1 ∨ k = 2 := by omega
        rcases this with rfl | rfl | rfl
        · rw [Int.add_zero] at y0 ⊢; exact y0
        · exact y1
        · exact y2))
      rw [Int.add_zero]
      exact goal
  · next hw => exact h0 (fun h => hw h.1)
theorem m_passes_wo {X : AX} (d : Nat) (a : AC49) (mT : TyT) (mG : TyMG) (mR : TyMR) (mU : TyMU) (nl nm nk : FN) (fk fp p n x : Int) (mO : TyO) (mS : TyMS) (mN : TyMN) (t : AH) {Q : AQ} (hn : 0 ≤ n ∧ n ≤ 200) (htp : ∀ i, 0 ≤ mT.1 i ∧ mT.1 i ≤ 255) (hp : 0 ≤ p ∧ p ≤ n)
    (h1 : Wwo mT.1 n (sk mT.1 n p) → Q (some (iv 1)) (CV a (MH mT mG mR mU (nl, nm, nk, fk, fp, sk mT.1 n p + 5, n, x) mO mS mN t))) (h0 : ¬ Wwo mT.1 n (sk mT.1 n p) → Q (some (iv 0)) (CV a (MH mT mG mR mU (nl, nm, nk, fk, fp, sk mT.1 n p, n, x) mO mS mN t))) :
    AW X (d + 4) 0 0 116 0 (aEntry 116 [rf 49, .inr (.inl 512970880104), iv 5]) [] (CV a (MH mT mG mR mU (nl, nm, nk, fk, fp, p, n, x) mO mS mN t)) Q := by
  obtain ⟨k1, k2, k3⟩ := sk_ok (tp := mT.1) (n := n) _ p rfl
  have k2' := k2 hp.2
  obtain ⟨w1, w2, w3⟩ := wl_ok (tp := mT.1) (n := n) _ (sk mT.1 n p) rfl
  have w2' := w2 k2'
  refine aw_tree (I0_ok X _) [(false, 49), (true, 24)] [10] rfl ?_
  refine aw_cf0 (m_wordSize _ a mT mG mR mU nl nm nk fk fp p n x mO mS mN t hn htp hp) rfl ?_
  generalize sk mT.1 n p = q at *
  refine aw_tree (I0_ok X _) [(false, 49), (true, 24)] [10] rfl ?_
  dsimp only
  repeat' (first | refine And.intro ?_ ?_ | (refine aImp_e0 ?_; intro _) | (refine aImp_n0 ?_; intro _) | (refine aImp_i ?_; intro _))
  all_goals (try (first | omega | exact bI_01 _ | exact bI_lo _ | exact bI_hi _ | exact bI_hi' _ | exact trivial | exact Or.inl rfl | exact Or.inr rfl | (exfalso; omega)))
  · next hw =>
    refine m_pl d a mT mG mR mU nl nm nk fk fp n x q mO mS mN t 512970880104 5 (fun k => ([119, 111, 114, 116, 104] : List Int).getD k.toNat 0) (by omega) (by omega) (fun k k0 k1 => ?_) (fun k k0 k1 => ?_) htp (fun hy => ?_) (fun hy => ?_) 5 0 1 (by omega) (by omega) (Or.inr rfl) (fun _ i i0 i1 => by omega) (fun h => by omega)
    · have : k = 0 ∨ k = 1 ∨ k = 2 ∨ k = 3 ∨ k = 4 := by omega
      rcases this with rfl | rfl | rfl | rfl | rfl <;> decide +kernel
    · have : k = 0 ∨ k = 1 ∨ k = 2 ∨ k = 3 ∨ k = 4 := by omega
      rcases this with rfl | rfl | rfl | rfl | rfl <;> decide
    · refine h1 ⟨hw, ?_⟩
      have y0 : mT.1 (q + 0) = 119 := hy 0 (by omega) (by omega)
      have y1 : mT.1 (q + 1) = 111 := hy 1 (by omega) (by omega)
      have y2 : mT.1 (q + 2) = 114 := hy 2 (by omega) (by omega)
      have y3 : mT.1 (q + 3) = 116 := hy 3 (by omega) (by omega)
      have y4 : mT.1 (q + 4) = 104 := hy 4 (by omega) (by omega)
      rw [Int.add_zero] at y0
      exact ⟨y0, y1, y2, y3, y4⟩
    · have goal := h0 (fun hw' => hy (fun k k0 k1 => by
        obtain ⟨_, y0, y1, y2, y3, y4⟩ := hw'
        rw [← Int.add_zero q] at y0
        have : k = 0 ∨ k = 1 ∨ k = 2 ∨ k = 3 ∨ k = 4 := by omega
        rcases this with rfl | rfl | rfl | rfl | rfl
        · rw [Int.add_zero] at y0 ⊢; exact y0
        · exact y1
        · exact y2
        · exact y3
        · exact y4))
      rw [Int.add_zero]
      exact goal
  · next hw => exact h0 (fun h => hw h.1)
theorem m_passes_wi {X : AX} (d : Nat) (a : AC49) (mT : TyT) (mG : TyMG) (mR : TyMR) (mU : TyMU) (nl nm nk : FN) (fk fp p n x : Int) (mO : TyO) (mS : TyMS) (mN : TyMN) (t : AH) {Q : AQ} (hn : 0 ≤ n ∧ n ≤ 200) (htp : ∀ i, 0 ≤ mT.1 i ∧ mT.1 i ≤ 255) (hp : 0 ≤ p ∧ p ≤ n)
    (h1 : Wwi mT.1 n (sk mT.1 n p) → Q (some (iv 1)) (CV a (MH mT mG mR mU (nl, nm, nk, fk, fp, sk mT.1 n p + 5, n, x) mO mS mN t))) (h0 : ¬ Wwi mT.1 n (sk mT.1 n p) → Q (some (iv 0)) (CV a (MH mT mG mR mU (nl, nm, nk, fk, fp, sk mT.1 n p, n, x) mO mS mN t))) :
    AW X (d + 4) 0 0 116 0 (aEntry 116 [rf 49, .inr (.inl 512869299304), iv 5]) [] (CV a (MH mT mG mR mU (nl, nm, nk, fk, fp, p, n, x) mO mS mN t)) Q := by
  obtain ⟨k1, k2, k3⟩ := sk_ok (tp := mT.1) (n := n) _ p rfl
  have k2' := k2 hp.2
  obtain ⟨w1, w2, w3⟩ := wl_ok (tp := mT.1) (n := n) _ (sk mT.1 n p) rfl
  have w2' := w2 k2'
  refine aw_tree (I0_ok X _) [(false, 49), (true, 24)] [10] rfl ?_
  refine aw_cf0 (m_wordSize _ a mT mG mR mU nl nm nk fk fp p n x mO mS mN t hn htp hp) rfl ?_
  generalize sk mT.1 n p = q at *
  refine aw_tree (I0_ok X _) [(false, 49), (true, 24)] [10] rfl ?_
  dsimp only
  repeat' (first | refine And.intro ?_ ?_ | (refine aImp_e0 ?_; intro _) | (refine aImp_n0 ?_; intro _) | (refine aImp_i ?_; intro _))
  all_goals (try (first | omega | exact bI_01 _ | exact bI_lo _ | exact bI_hi _ | exact bI_hi' _ | exact trivial | exact Or.inl rfl | exact Or.inr rfl | (exfalso; omega)))
  · next hw =>
    refine m_pl d a mT mG mR mU nl nm nk fk fp n x q mO mS mN t 512869299304 5 (fun k => ([119, 105, 100, 116, 104] : List Int).getD k.toNat 0) (by omega) (by omega) (fun k k0 k1 => ?_) (fun k k0 k1 => ?_) htp (fun hy => ?_) (fun hy => ?_) 5 0 1 (by omega) (by omega) (Or.inr rfl) (fun _ i i0 i1 => by omega) (fun h => by omega)
    · have : k = 0 ∨ k = 1 ∨ k = 2 ∨ k = 3 ∨ k = 4 := by omega
      rcases this with rfl | rfl | rfl | rfl | rfl <;> decide +kernel
    · have : k = 0 ∨ k = 1 ∨ k = 2 ∨ k = 3 ∨ k = 4 := by omega
      rcases this with rfl | rfl | rfl | rfl | rfl <;> decide
    · refine h1 ⟨hw, ?_⟩
      have y0 : mT.1 (q + 0) = 119 := hy 0 (by omega) (by omega)
      have y1 : mT.1 (q + 1) = 105 := hy 1 (by omega) (by omega)
      have y2 : mT.1 (q + 2) = 100 := hy 2 (by omega) (by omega)
      have y3 : mT.1 (q + 3) = 116 := hy 3 (by omega) (by omega)
      have y4 : mT.1 (q + 4) = 104 := hy 4 (by omega) (by omega)
      rw [Int.add_zero] at y0
      exact ⟨y0, y1, y2, y3, y4⟩
    · have goal := h0 (fun hw' => hy (fun k k0 k1 => by
        obtain ⟨_, y0, y1, y2, y3, y4⟩ := hw'
        rw [← Int.add_zero q] at y0
        have : k = 0 ∨ k = 1 ∨ k = 2 ∨ k = 3 ∨ k = 4 := by omega
        rcases this with rfl | rfl | rfl | rfl | rfl
        · rw [Int.add_zero] at y0 ⊢; exact y0
        · exact y1
        · exact y2
        · exact y3
        · exact y4))
      rw [Int.add_zero]
      exact goal
  · next hw => exact h0 (fun h => hw h.1)
theorem m_passes_ey {X : AX} (d : Nat) (a : AC49) (mT : TyT) (mG : TyMG) (mR : TyMR) (mU : TyMU) (nl nm nk : FN) (fk fp p n x : Int) (mO : TyO) (mS : TyMS) (mN : TyMN) (t : AH) {Q : AQ} (hn : 0 ≤ n ∧ n ≤ 200) (htp : ∀ i, 0 ≤ mT.1 i ∧ mT.1 i ≤ 255) (hp : 0 ≤ p ∧ p ≤ n)
    (h1 : Wey mT.1 n (sk mT.1 n p) → Q (some (iv 1)) (CV a (MH mT mG mR mU (nl, nm, nk, fk, fp, sk mT.1 n p + 3, n, x) mO mS mN t))) (h0 : ¬ Wey mT.1 n (sk mT.1 n p) → Q (some (iv 0)) (CV a (MH mT mG mR mU (nl, nm, nk, fk, fp, sk mT.1 n p, n, x) mO mS mN t))) :
    AW X (d + 4) 0 0 116 0 (aEntry 116 [rf 49, .inr (.inl 6650213), iv 3]) [] (CV a (MH mT mG mR mU (nl, nm, nk, fk, fp, p, n, x) mO mS mN t)) Q := by
  obtain ⟨k1, k2, k3⟩ := sk_ok (tp := mT.1) (n := n) _ p rfl
  have k2' := k2 hp.2
  obtain ⟨w1, w2, w3⟩ := wl_ok (tp := mT.1) (n := n) _ (sk mT.1 n p) rfl
  have w2' := w2 k2'
  refine aw_tree (I0_ok X _) [(false, 49), (true, 24)] [10] rfl ?_
  refine aw_cf0 (m_wordSize _ a mT mG mR mU nl nm nk fk fp p n x mO mS mN t hn htp hp) rfl ?_
  generalize sk mT.1 n p = q at *
  refine aw_tree (I0_ok X _) [(false, 49), (true, 24)] [10] rfl ?_
  dsimp only
  repeat' (first | refine And.intro ?_ ?_ | (refine aImp_e0 ?_; intro _) | (refine aImp_n0 ?_; intro _) | (refine aImp_i ?_; intro _))
  all_goals (try (first | omega | exact bI_01 _ | exact bI_lo _ | exact bI_hi _ | exact bI_hi' _ | exact trivial | exact Or.inl rfl | exact Or.inr rfl | (exfalso; omega)))
  · next hw =>
    refine m_pl d a mT mG mR mU nl nm nk fk fp n x q mO mS mN t 6650213 3 (fun k => ([101, 121, 101] : List Int).getD k.toNat 0) (by omega) (by omega) (fun k k0 k1 => ?_) (fun k k0 k1 => ?_) htp (fun hy => ?_) (fun hy => ?_) 3 0 1 (by omega) (by omega) (Or.inr rfl) (fun _ i i0 i1 => by omega) (fun h => by omega)
    · have : k = 0 ∨ k = 1 ∨ k = 2 := by omega
      rcases this with rfl | rfl | rfl <;> decide +kernel
    · have : k = 0 ∨ k = 1 ∨ k = 2 := by omega
      rcases this with rfl | rfl | rfl <;> decide
    · refine h1 ⟨hw, ?_⟩
      have y0 : mT.1 (q + 0) = 101 := hy 0 (by omega) (by omega)
      have y1 : mT.1 (q + 1) = 121 := hy 1 (by omega) (by omega)
      have y2 : mT.1 (q + 2) = 101 := hy 2 (by omega) (by omega)
      rw [Int.add_zero] at y0
      exact ⟨y0, y1, y2⟩
    · have goal := h0 (fun hw' => hy (fun k k0 k1 => by
        obtain ⟨_, y0, y1, y2⟩ := hw'
        rw [← Int.add_zero q] at y0
        have : k = 0 ∨ k = 1 ∨ k = 2 := by omega
        rcases this with rfl | rfl | rfl
        · rw [Int.add_zero] at y0 ⊢; exact y0
        · exact y1
        · exact y2))
      rw [Int.add_zero]
      exact goal
  · next hw => exact h0 (fun h => hw h.1)

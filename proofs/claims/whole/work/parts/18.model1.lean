theorem aw_ck {X : AX} {mi j d kc1 ks1 kc2 ks2 kc ks : Nat} {ls st : List AV} {h : AH} {Q : AQ} {mj : Nat} {as rest : List AV}
    (hM : AW X d kc1 ks1 mj 0 (aEntry mj as) [] h (fun r h' => AW X (d + 1) kc2 ks2 mi (j + 1) ls (r.toList ++ rest) h' Q)) (hc : aCallB mi j st h = some (mj, as, rest)) (hkc : kc1 + kc2 = kc) (hks : ks1 + ks2 = ks) : AW X (d + 1) kc ks mi j ls st h Q :=
  aw_cq hM hc hkc hks (fun _ _ k => k)
theorem aw_ck0 {X : AX} {mi j d kc ks : Nat} {ls st : List AV} {h : AH} {Q : AQ} {mj : Nat} {as rest : List AV}
    (hM : AW X d 0 0 mj 0 (aEntry mj as) [] h (fun r h' => AW X (d + 1) kc ks mi (j + 1) ls (r.toList ++ rest) h' Q)) (hc : aCallB mi j st h = some (mj, as, rest)) : AW X (d + 1) kc ks mi j ls st h Q :=
  aw_ck hM hc (Nat.zero_add _) (Nat.zero_add _)
theorem aw_cf0 {X : AX} {mi j d kc ks : Nat} {ls st : List AV} {h h' : AH} {Q : AQ} {mj : Nat} {as rest : List AV} {r : Option AV}
    (hM : AF X d 0 0 mj as h r h') (hc : aCallB mi j st h = some (mj, as, rest)) (kk : AW X (d + 1) kc ks mi (j + 1) ls (r.toList ++ rest) h' Q) : AW X (d + 1) kc ks mi j ls st h Q :=
  aw_cf hM hc (Nat.zero_add _) (Nat.zero_add _) kk
def tpM (v : Int) (q : TyT) : TyT := (aUp (aUp (aUp (aUp q.1 q.2 (bAnd (bShr v 24) 255)) (q.2 + 1) (bAnd (bShr v 16) 255)) (q.2 + 1 + 1) (bAnd (bShr v 8) 255)) (q.2 + 1 + 1 + 1) (bAnd (bShr v 0) 255), q.2 + 1 + 1 + 1 + 1)
theorem m_put {X : AX} (d : Nat) (a : AC49) (mT : TyT) (mG : TyMG) (mR : TyMR) (mU : TyMU) (mP : TyMP) (mO : TyO) (mS : TyMS) (mN : TyMN) (t : AH) (v : Int) (hT : 0 ≤ mT.2 ∧ mT.2 ≤ 196) : AF X (d + 2) 0 0 102 [rf 49, iv v] (CV a (MH mT mG mR mU mP mO mS mN t)) none (CV a (MH (tpM v mT) mG mR mU mP mO mS mN t)) := by
  refine aw_tree (I0_ok X _) [(false, 49), (true, 24)] [2] rfl ?_
  refine aw_tree (I0_ok X _) [(false, 49), (true, 24)] [2] rfl ?_
  repeat' (first | refine And.intro ?_ ?_ | (refine aImp_e0 ?_; intro _) | (refine aImp_n0 ?_; intro _) | (refine aImp_i ?_; intro _))
  all_goals (try (first | omega | exact bI_01 _ | exact bI_lo _ | exact bI_hi _ | exact bI_hi' _ | exact trivial | exact Or.inl rfl | exact Or.inr rfl | (exfalso; omega)))
  refine aw_tree (I0_ok X _) [(false, 49), (true, 24)] [2] rfl ?_
  repeat' (first | refine And.intro ?_ ?_ | (refine aImp_e0 ?_; intro _) | (refine aImp_n0 ?_; intro _) | (refine aImp_i ?_; intro _))
  all_goals (try (first | omega | exact bI_01 _ | exact bI_lo _ | exact bI_hi _ | exact bI_hi' _ | exact trivial | exact Or.inl rfl | exact Or.inr rfl | (exfalso; omega)))
  refine aw_tree (I0_ok X _) [(false, 49), (true, 24)] [2] rfl ?_
  repeat' (first | refine And.intro ?_ ?_ | (refine aImp_e0 ?_; intro _) | (refine aImp_n0 ?_; intro _) | (refine aImp_i ?_; intro _))
  all_goals (try (first | omega | exact bI_01 _ | exact bI_lo _ | exact bI_hi _ | exact bI_hi' _ | exact trivial | exact Or.inl rfl | exact Or.inr rfl | (exfalso; omega)))
  refine aw_tree (I0_ok X _) [(false, 49), (true, 24)] [2] rfl ?_
  repeat' (first | refine And.intro ?_ ?_ | (refine aImp_e0 ?_; intro _) | (refine aImp_n0 ?_; intro _) | (refine aImp_i ?_; intro _))
  all_goals (try (first | omega | exact bI_01 _ | exact bI_lo _ | exact bI_hi _ | exact bI_hi' _ | exact trivial | exact Or.inl rfl | exact Or.inr rfl | (exfalso; omega)))
  refine aw_tree (I0_ok X _) [(false, 49), (true, 24)] [2] rfl ?_
  repeat' (first | refine And.intro ?_ ?_ | (refine aImp_e0 ?_; intro _) | (refine aImp_n0 ?_; intro _) | (refine aImp_i ?_; intro _))
  all_goals (try (first | omega | exact bI_01 _ | exact bI_lo _ | exact bI_hi _ | exact bI_hi' _ | exact trivial | exact Or.inl rfl | exact Or.inr rfl | (exfalso; omega)))
  all_goals rfl
theorem m_feed {X : AX} (d : Nat) (a : AC49) (mT : TyT) (mG : TyMG) (mR : TyMR) (mU : TyMU) (mP : TyMP) (mO : TyO) (mS : TyMS) (mN : TyMN) (t : AH) (v1 v2 v3 v4 v5 : Int) {Q : AQ} (hT : 0 ≤ mT.2 ∧ mT.2 ≤ 200)
    (h1 : 180 < mT.2 → Q (some (iv (-1))) (CV a (MH mT mG mR mU mP mO mS mN t)))
    (h2 : mT.2 ≤ 180 → Q (some (iv (mT.2 + 20))) (CV a (MH (tpM v5 (tpM v4 (tpM v3 (tpM v2 (tpM v1 mT))))) mG mR mU mP mO mS mN t))) :
    AW X (d + 3) 0 0 103 0 (aEntry 103 [rf 49, iv v1, iv v2, iv v3, iv v4, iv v5]) [] (CV a (MH mT mG mR mU mP mO mS mN t)) Q := by
  refine aw_tree (I0_ok X _) [(false, 49), (true, 24)] [] rfl ?_
  repeat' (first | refine And.intro ?_ ?_ | (refine aImp_e0 ?_; intro _) | (refine aImp_n0 ?_; intro _) | (refine aImp_i ?_; intro _))
  all_goals (try (first | omega | exact bI_01 _ | exact bI_lo _ | exact bI_hi _ | exact bI_hi' _ | exact trivial | exact Or.inl rfl | exact Or.inr rfl | (exfalso; omega)))
  · refine aw_cf0 (m_put d a mT mG mR mU mP mO mS mN t v1 (by omega)) rfl ?_
    refine aw_tree (I0_ok X _) [(false, 49), (true, 24)] [] rfl ?_
    refine aw_cf0 (m_put d a _ mG mR mU mP mO mS mN t v2 (by dsimp only [tpM]; omega)) rfl ?_
    refine aw_tree (I0_ok X _) [(false, 49), (true, 24)] [] rfl ?_
    refine aw_cf0 (m_put d a _ mG mR mU mP mO mS mN t v3 (by dsimp only [tpM]; omega)) rfl ?_
    refine aw_tree (I0_ok X _) [(false, 49), (true, 24)] [] rfl ?_
    refine aw_cf0 (m_put d a _ mG mR mU mP mO mS mN t v4 (by dsimp only [tpM]; omega)) rfl ?_
    refine aw_tree (I0_ok X _) [(false, 49), (true, 24)] [] rfl ?_
    refine aw_cf0 (m_put d a _ mG mR mU mP mO mS mN t v5 (by dsimp only [tpM]; omega)) rfl ?_
    refine aw_tree (I0_ok X _) [(false, 49), (true, 24)] [] rfl ?_
    have e : (tpM v5 (tpM v4 (tpM v3 (tpM v2 (tpM v1 mT))))).2 = mT.2 + 20 := by dsimp only [tpM]; omega
    have := h2 (by omega)
    rw [← e] at this
    exact this
  · exact h1 (by omega)
theorem m_end {X : AX} (d : Nat) (a : AC49) (mT : TyT) (mG : TyMG) (mR : TyMR) (mU : TyMU) (mP : TyMP) (mO : TyO) (mS : TyMS) (mN : TyMN) (t : AH) (n : Int) {Q : AQ} (hn : inR n) (hT : 0 ≤ mT.2 ∧ mT.2 ≤ 200)
    (h1 : ¬ (0 ≤ n ∧ n ≤ mT.2) → Q (some (iv 0)) (CV a (MH mT mG mR mU mP mO mS mN t)))
    (h2 : 0 ≤ n ∧ n ≤ mT.2 → Q (some (iv 1)) (CV a (MH (mT.1, n) mG mR mU mP mO mS mN t))) :
    AW X (d + 2) 0 0 104 0 (aEntry 104 [rf 49, iv n]) [] (CV a (MH mT mG mR mU mP mO mS mN t)) Q := by
  unfold inR at hn
  refine aw_tree (I0_ok X _) [(false, 49), (true, 24)] [] rfl ?_
  repeat' (first | refine And.intro ?_ ?_ | (refine aImp_e0 ?_; intro _) | (refine aImp_n0 ?_; intro _) | (refine aImp_i ?_; intro _))
  all_goals (try (first | omega | exact bI_01 _ | exact bI_lo _ | exact bI_hi _ | exact bI_hi' _ | exact trivial | exact Or.inl rfl | exact Or.inr rfl | (exfalso; omega)))
  all_goals first | exact h1 (by omega) | exact h2 (by omega)
def okGuest (k dt ag wd ey wo : Int) : Prop := (0 ≤ k ∧ k ≤ 7) ∧ (0 ≤ dt ∧ dt ≤ 9999) ∧ (0 ≤ ag ∧ ag ≤ 120) ∧ (1 ≤ wd ∧ wd ≤ 6) ∧ (30 ≤ ey ∧ ey ≤ 80) ∧ 1 ≤ wo ∧ wo ≤ 1000
def addM (q : TyMG) (k dt ag wd ey wo : Int) : TyMG := (aUp (aUp (aUp (aUp (aUp (aUp q.1 (6 * q.2.2.2) k) (6 * q.2.2.2 + 1) dt) (6 * q.2.2.2 + 2) ag) (6 * q.2.2.2 + 3) wo) (6 * q.2.2.2 + 4) wd) (6 * q.2.2.2 + 5) ey, q.2.1, q.2.2.1, q.2.2.2 + 1)
set_option maxRecDepth 100000 in
theorem m_guest {X : AX} (d : Nat) (a : AC49) (mT : TyT) (mG : TyMG) (mR : TyMR) (mU : TyMU) (mP : TyMP) (mO : TyO) (mS : TyMS) (mN : TyMN) (t : AH) (k dt ag wd ey wo : Int) {Q : AQ} (hk : inR k) (hd : inR dt) (ha : inR ag) (hw : inR wd) (he : inR ey) (ho : inR wo) (hG : 0 ≤ mG.2.2.2 ∧ mG.2.2.2 ≤ 32)
    (h1 : ¬ (okGuest k dt ag wd ey wo ∧ mG.2.2.2 < 32) → Q (some (iv (-1))) (CV a (MH mT mG mR mU mP mO mS mN t)))
    (h2 : okGuest k dt ag wd ey wo ∧ mG.2.2.2 < 32 → Q (some (iv (mG.2.2.2 + 1 - 1))) (CV a (MH mT (addM mG k dt ag wd ey wo) mR mU mP mO mS mN t))) :
    AW X (d + 2) 0 0 105 0 (aEntry 105 [rf 49, iv k, iv dt, iv ag, iv wd, iv ey, iv wo]) [] (CV a (MH mT mG mR mU mP mO mS mN t)) Q := by
  unfold inR at hk hd ha hw he ho
  unfold okGuest at h1 h2
  refine aw_tree (I0_ok X _) [(false, 49), (true, 24)] [] rfl ?_
  repeat' (first | refine And.intro ?_ ?_ | (refine aImp_e0 ?_; intro _) | (refine aImp_n0 ?_; intro _) | (refine aImp_i ?_; intro _))
  all_goals (try (first | omega | exact bI_01 _ | exact bI_lo _ | exact bI_hi _ | exact bI_hi' _ | exact trivial | exact Or.inl rfl | exact Or.inr rfl | (exfalso; omega)))
  all_goals first | exact h1 (by omega) | exact h2 (by omega)
theorem m_isGuest {X : AX} (d : Nat) (a : AC49) (mT : TyT) (mG : TyMG) (mR : TyMR) (mU : TyMU) (mP : TyMP) (mO : TyO) (mS : TyMS) (mN : TyMN) (t : AH) (g : Int) (hg : inR g) (hG : 0 ≤ mG.2.2.2 ∧ mG.2.2.2 ≤ 32) : AF X (d + 2) 0 0 106 [rf 49, iv g] (CV a (MH mT mG mR mU mP mO mS mN t)) (some (iv (bI (0 ≤ g ∧ g < mG.2.2.2)))) (CV a (MH mT mG mR mU mP mO mS mN t)) := by
  unfold inR at hg
  refine aw_tree (I0_ok X _) [(false, 49), (true, 24)] [] rfl ?_
  repeat' (first | refine And.intro ?_ ?_ | (refine aImp_e0 ?_; intro _) | (refine aImp_n0 ?_; intro _) | (refine aImp_i ?_; intro _))
  all_goals (try (first | omega | exact bI_01 _ | exact bI_lo _ | exact bI_hi _ | exact bI_hi' _ | exact trivial | exact Or.inl rfl | exact Or.inr rfl | (exfalso; omega)))
  all_goals first | rfl | rw [bI_f (by omega)] | rw [bI_t (by omega)]
theorem m_gone {X : AX} (d : Nat) (a : AC49) (mT : TyT) (mG : TyMG) (mR : TyMR) (mU : TyMU) (mP : TyMP) (mO : TyO) (mS : TyMS) (mN : TyMN) (t : AH) (g v : Int) {Q : AQ} (hg : inR g) (hv : v = 0 ∨ v = 1) (hG : 0 ≤ mG.2.2.2 ∧ mG.2.2.2 ≤ 32) (hA : ∀ i, mG.2.1 i = 0 ∨ mG.2.1 i = 1)
    (h1 : ¬ ((0 ≤ g ∧ g < mG.2.2.2) ∧ mG.2.1 g ≠ v) → Q (some (iv 0)) (CV a (MH mT mG mR mU mP mO mS mN t)))
    (h2 : (0 ≤ g ∧ g < mG.2.2.2) ∧ mG.2.1 g ≠ v → Q (some (iv 1)) (CV a (MH mT (mG.1, aUp mG.2.1 g v, mG.2.2.1, mG.2.2.2) mR mU mP mO mS mN t))) :
    AW X (d + 4) 0 0 107 0 (aEntry 107 [rf 49, iv g, iv v]) [] (CV a (MH mT mG mR mU mP mO mS mN t)) Q := by
  have hAg := hA g
  refine aw_tree (I0_ok X _) [(false, 49), (true, 24)] [] rfl ?_
  refine aw_cf0 (m_isGuest _ a mT mG mR mU mP mO mS mN t g hg hG) rfl ?_
  refine aw_tree (I0_ok X _) [(false, 49), (true, 24)] [] rfl ?_
  repeat' (first | refine And.intro ?_ ?_ | (refine aImp_e0 ?_; intro _) | (refine aImp_n0 ?_; intro _) | (refine aImp_i ?_; intro _))
  all_goals (try (first | omega | exact bI_01 _ | exact bI_lo _ | exact bI_hi _ | exact bI_hi' _ | exact trivial | exact Or.inl rfl | exact Or.inr rfl | (exfalso; omega)))
  all_goals first | exact h1 (by omega) | exact h2 (by omega)
theorem m_bar {X : AX} (d : Nat) (a : AC49) (mT : TyT) (mG : TyMG) (mR : TyMR) (mU : TyMU) (mP : TyMP) (mO : TyO) (mS : TyMS) (mN : TyMN) (t : AH) (x y v : Int) {Q : AQ} (hx : inR x) (hy : inR y) (hv : v = 0 ∨ v = 1) (hG : 0 ≤ mG.2.2.2 ∧ mG.2.2.2 ≤ 32) (hA : ∀ i, mG.2.2.1 i = 0 ∨ mG.2.2.1 i = 1)
    (h1 : ¬ ((0 ≤ x ∧ x < mG.2.2.2) ∧ (0 ≤ y ∧ y < mG.2.2.2) ∧ x ≠ y ∧ mG.2.2.1 (32 * x + y) ≠ v) → Q (some (iv 0)) (CV a (MH mT mG mR mU mP mO mS mN t)))
    (h2 : (0 ≤ x ∧ x < mG.2.2.2) ∧ (0 ≤ y ∧ y < mG.2.2.2) ∧ x ≠ y ∧ mG.2.2.1 (32 * x + y) ≠ v → Q (some (iv 1)) (CV a (MH mT (mG.1, mG.2.1, aUp (aUp mG.2.2.1 (32 * x + y) v) (32 * y + x) v, mG.2.2.2) mR mU mP mO mS mN t))) :
    AW X (d + 4) 0 0 108 0 (aEntry 108 [rf 49, iv x, iv y, iv v]) [] (CV a (MH mT mG mR mU mP mO mS mN t)) Q := by
  have hAg := hA (32 * x + y)
  have hx' := hx
  have hy' := hy
  unfold inR at hx' hy'
  refine aw_tree (I0_ok X _) [(false, 49), (true, 24)] [] rfl ?_
  refine aw_cf0 (m_isGuest _ a mT mG mR mU mP mO mS mN t x hx hG) rfl ?_
  refine aw_tree (I0_ok X _) [(false, 49), (true, 24)] [] rfl ?_
  repeat' (first | refine And.intro ?_ ?_ | (refine aImp_e0 ?_; intro _) | (refine aImp_n0 ?_; intro _) | (refine aImp_i ?_; intro _))
  all_goals (try (first | omega | exact bI_01 _ | exact bI_lo _ | exact bI_hi _ | exact bI_hi' _ | exact trivial | exact Or.inl rfl | exact Or.inr rfl | (exfalso; omega)))
  · exact h1 (by omega)
  · refine aw_cf0 (m_isGuest _ a mT mG mR mU mP mO mS mN t y hy hG) rfl ?_
    refine aw_tree (I0_ok X _) [(false, 49), (true, 24)] [] rfl ?_
    repeat' (first | refine And.intro ?_ ?_ | (refine aImp_e0 ?_; intro _) | (refine aImp_n0 ?_; intro _) | (refine aImp_i ?_; intro _))
    all_goals (try (first | omega | exact bI_01 _ | exact bI_lo _ | exact bI_hi _ | exact bI_hi' _ | exact trivial | exact Or.inl rfl | exact Or.inr rfl | (exfalso; omega)))
    all_goals first | exact h1 (by omega) | exact h2 (by omega)
theorem m_set {X : AX} (d : Nat) (a : AC49) (mT : TyT) (mG : TyMG) (mR : TyMR) (mU : TyMU) (mP : TyMP) (mO : TyO) (mS : TyMS) (mN : TyMN) (t : AH) (s f e : Int) {Q : AQ} (hs : inR s) (hf : inR f) (he : inR e)
    (h1 : ¬ ((0 ≤ s ∧ s ≤ 300) ∧ (1 ≤ f ∧ f ≤ 4) ∧ (0 ≤ e ∧ e ≤ 1000)) → Q (some (iv 0)) (CV a (MH mT mG mR mU mP mO mS mN t)))
    (h2 : (0 ≤ s ∧ s ≤ 300) ∧ (1 ≤ f ∧ f ≤ 4) ∧ (0 ≤ e ∧ e ≤ 1000) → Q (some (iv 1)) (CV a (MH mT mG (mR.1, mR.2.1, mR.2.2.1, mR.2.2.2.1, s, f, e) mU mP mO mS mN t))) :
    AW X (d + 2) 0 0 110 0 (aEntry 110 [rf 49, iv s, iv f, iv e]) [] (CV a (MH mT mG mR mU mP mO mS mN t)) Q := by
  unfold inR at hs hf he
  refine aw_tree (I0_ok X _) [(false, 49), (true, 24)] [] rfl ?_
  repeat' (first | refine And.intro ?_ ?_ | (refine aImp_e0 ?_; intro _) | (refine aImp_n0 ?_; intro _) | (refine aImp_i ?_; intro _))
  all_goals (try (first | omega | exact bI_01 _ | exact bI_lo _ | exact bI_hi _ | exact bI_hi' _ | exact trivial | exact Or.inl rfl | exact Or.inr rfl | (exfalso; omega)))
  all_goals first | exact h1 (by omega) | exact h2 (by omega)
def addR (q : TyMR) (w f dp : Int) : TyMR := (aUp q.1 q.2.2.2.1 w, aUp q.2.1 q.2.2.2.1 f, aUp q.2.2.1 q.2.2.2.1 (dp + (if q.2.2.2.1 = 0 then 0 else q.2.2.1 (q.2.2.2.1 - 1))), q.2.2.2.1 + 1, q.2.2.2.2)
theorem m_row {X : AX} (d : Nat) (a : AC49) (mT : TyT) (mG : TyMG) (mR : TyMR) (mU : TyMU) (mP : TyMP) (mO : TyO) (mS : TyMS) (mN : TyMN) (t : AH) (w f dp : Int) {Q : AQ} (hw : inR w) (hf : inR f) (hd : inR dp) (hR : 0 ≤ mR.2.2.2.1 ∧ mR.2.2.2.1 ≤ 6)
    (h1 : ¬ (((4 ≤ w ∧ w ≤ 40) ∧ (0 ≤ f ∧ f ≤ 300) ∧ (20 ≤ dp ∧ dp ≤ 60)) ∧ mR.2.2.2.1 < 6) → Q (some (iv (-1))) (CV a (MH mT mG mR mU mP mO mS mN t)))
    (h2 : ((4 ≤ w ∧ w ≤ 40) ∧ (0 ≤ f ∧ f ≤ 300) ∧ (20 ≤ dp ∧ dp ≤ 60)) ∧ mR.2.2.2.1 < 6 → Q (some (iv (mR.2.2.2.1 + 1))) (CV a (MH mT mG (addR mR w f dp) mU mP mO mS mN t))) :
    AW X (d + 2) 0 0 109 0 (aEntry 109 [rf 49, iv w, iv f, iv dp]) [] (CV a (MH mT mG mR mU mP mO mS mN t)) Q := by
  unfold inR at hw hf hd
  unfold addR at h2
  refine aw_tree (I0_ok X _) [(false, 49), (true, 24)] [] rfl ?_
  repeat' (first | refine And.intro ?_ ?_ | (refine aImp_e0 ?_; intro _) | (refine aImp_n0 ?_; intro _) | (refine aImp_i ?_; intro _))
  all_goals (try (first | omega | exact bI_01 _ | exact bI_lo _ | exact bI_hi _ | exact bI_hi' _ | exact trivial | exact Or.inl rfl | exact Or.inr rfl | (exfalso; omega)))
  all_goals first | exact h1 (by omega) | (next q => have := h2 (by omega); rw [if_pos (by omega)] at this; exact this) | (next q => have := h2 (by omega); rw [if_neg (by omega)] at this; exact this)
theorem m_fault {X : AX} (d : Nat) (a : AC49) (mT : TyT) (mG : TyMG) (mR : TyMR) (mU : TyMU) (mP : TyMP) (mO : TyO) (mS : TyMS) (mN : TyMN) (t : AH) (w : Int) (hw : inR w) : AF X (d + 2) 0 0 121 [rf 49, iv w] (CV a (MH mT mG mR mU mP mO mS mN t)) (some (iv (if w = 0 then mP.2.2.2.1 else if w = 1 then mP.2.2.2.2.1 else -1))) (CV a (MH mT mG mR mU mP mO mS mN t)) := by
  unfold inR at hw
  refine aw_tree (I0_ok X _) [(false, 49), (true, 24)] [] rfl ?_
  repeat' (first | refine And.intro ?_ ?_ | (refine aImp_e0 ?_; intro _) | (refine aImp_n0 ?_; intro _) | (refine aImp_i ?_; intro _))
  all_goals (try (first | omega | exact bI_01 _ | exact bI_lo _ | exact bI_hi _ | exact bI_hi' _ | exact trivial | exact Or.inl rfl | exact Or.inr rfl | (exfalso; omega)))
  all_goals first | rfl | (rw [if_pos (by omega)]) | (rw [if_neg (by omega), if_pos (by omega)]) | (rw [if_neg (by omega), if_neg (by omega)])
theorem m_moved {X : AX} (d : Nat) (a : AC49) (mT : TyT) (mG : TyMG) (mR : TyMR) (mU : TyMU) (mP : TyMP) (mO : TyO) (mS : TyMS) (mN : TyMN) (t : AH) (hs : mS.2.2.2.2.2.1 = 0 ∨ mS.2.2.2.2.2.1 = 1) : AF X (d + 2) 0 0 133 [rf 49] (CV a (MH mT mG mR mU mP mO mS mN t)) (some (iv (if mS.2.2.2.2.2.1 = 0 then -1 else mS.2.2.2.2.2.2.2.1))) (CV a (MH mT mG mR mU mP mO mS mN t)) := by
  refine aw_tree (I0_ok X _) [(false, 49), (true, 24)] [] rfl ?_
  repeat' (first | refine And.intro ?_ ?_ | (refine aImp_e0 ?_; intro _) | (refine aImp_n0 ?_; intro _) | (refine aImp_i ?_; intro _))
  all_goals (try (first | omega | exact bI_01 _ | exact bI_lo _ | exact bI_hi _ | exact bI_hi' _ | exact trivial | exact Or.inl rfl | exact Or.inr rfl | (exfalso; omega)))
  all_goals first | rfl | (rw [if_pos (by omega)]) | (rw [if_neg (by omega)])
/-- g sits in the latest seating -/
def satM (mS : TyMS) (g : Int) : Prop := mS.2.2.2.2.2.1 = 1 ∧ 0 ≤ g ∧ g < mS.2.2.2.2.2.2.2.2 ∧ mS.1 g < 6
theorem m_sat {X : AX} (d : Nat) (a : AC49) (mT : TyT) (mG : TyMG) (mR : TyMR) (mU : TyMU) (mP : TyMP) (mO : TyO) (mS : TyMS) (mN : TyMN) (t : AH) (g : Int) (hg : inR g) (hs : mS.2.2.2.2.2.1 = 0 ∨ mS.2.2.2.2.2.1 = 1) (hn : 0 ≤ mS.2.2.2.2.2.2.2.2 ∧ mS.2.2.2.2.2.2.2.2 ≤ 32) (hr : ∀ i, 0 ≤ mS.1 i ∧ mS.1 i ≤ 7) : AF X (d + 2) 0 0 134 [rf 49, iv g] (CV a (MH mT mG mR mU mP mO mS mN t)) (some (iv (bI (satM mS g)))) (CV a (MH mT mG mR mU mP mO mS mN t)) := by
  unfold inR at hg
  have hrg := hr g
  unfold satM
  refine aw_tree (I0_ok X _) [(false, 49), (true, 24)] [] rfl ?_
  repeat' (first | refine And.intro ?_ ?_ | (refine aImp_e0 ?_; intro _) | (refine aImp_n0 ?_; intro _) | (refine aImp_i ?_; intro _))
  all_goals (try (first | omega | exact bI_01 _ | exact bI_lo _ | exact bI_hi _ | exact bI_hi' _ | exact trivial | exact Or.inl rfl | exact Or.inr rfl | (exfalso; omega)))
  all_goals first | rfl | rw [bI_f (by omega)] | rw [bI_t (by omega)]

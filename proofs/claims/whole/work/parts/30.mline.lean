theorem tk_sg {tp : FN} {n q : Int} (h : tk tp n q = 9 ∨ tk tp n q = 10) : 4 ≤ wl tp n q ∧ q < n := by
  rcases tk_cases tp n q with k | ⟨_, _, k⟩ | ⟨_, _, k⟩ | ⟨k0, _, k⟩
  · omega
  · omega
  · rcases k with k | k
    · omega
    · omega
  · rcases k with k | k | k | k | k | k | k | k | k <;> first | omega | (unfold Wle at k; omega) | (unfold Wmo at k; omega)
theorem tk_fd {tp : FN} {n q : Int} (h : 11 ≤ tk tp n q ∧ tk tp n q ≤ 15) : 3 ≤ wl tp n q ∧ q < n := by
  rcases tk_cases tp n q with k | ⟨_, _, k⟩ | ⟨_, _, k⟩ | ⟨k0, _, k⟩
  · omega
  · omega
  · rcases k with k | k
    · omega
    · omega
  · rcases k with k | k | k | k | k | k | k | k | k <;> first | omega | (unfold Wda at k; omega) | (unfold Wag at k; omega) | (unfold Wwo at k; omega) | (unfold Wwi at k; omega) | (unfold Wey at k; omega)
theorem wl_c0 {tp : FN} {n q : Int} (h : tp q = 44 ∨ tp q = 59) : wl tp n q = 0 := wl_stop (fun k => by have := k.2; unfold ltr at this; omega)
theorem tk_comma {tp : FN} {n q : Int} : tk tp n q = 16 ↔ q < n ∧ tp q = 44 := by
  constructor
  · intro h
    rcases tk_cases tp n q with k | ⟨k0, _, k⟩ | ⟨_, _, k⟩ | ⟨k0, _, k⟩
    · omega
    · exact ⟨k0, by omega⟩
    · rcases k with k | k
      · omega
      · omega
    · omega
  · intro h
    rw [tk_ch (by omega) (wl_c0 (Or.inl h.2)), cif_t h.2]
theorem tk_semi {tp : FN} {n q : Int} : tk tp n q = 17 ↔ q < n ∧ tp q = 59 := by
  constructor
  · intro h
    rcases tk_cases tp n q with k | ⟨k0, _, k⟩ | ⟨_, _, k⟩ | ⟨k0, _, k⟩
    · omega
    · exact ⟨k0, by omega⟩
    · rcases k with k | k
      · omega
      · omega
    · omega
  · intro h
    rw [tk_ch (by omega) (wl_c0 (Or.inr h.2)), cif_f (by omega), cif_t h.2]
theorem tk_by {tp : FN} {n q : Int} : tk tp n q = 8 ↔ Wby tp n q := by
  constructor
  · intro h
    rcases tk_cases tp n q with k | ⟨k0, _, k⟩ | ⟨_, _, k⟩ | ⟨k0, _, k⟩
    · omega
    · omega
    · rcases k with k | k
      · omega
      · omega
    · rcases k with k | k | k | k | k | k | k | k | k <;> first | exact k.1 | omega
  · exact tk_Wby
theorem tk_eoi {tp : FN} {n q : Int} : tk tp n q = 18 ↔ n ≤ q := by
  constructor
  · intro h
    rcases tk_cases tp n q with k | ⟨k0, _, k⟩ | ⟨_, _, k⟩ | ⟨k0, _, k⟩
    · exact k.1
    · omega
    · rcases k with k | k
      · omega
      · omega
    · omega
  · exact tk_end
theorem m_line_end {X : AX} (d : Nat) (a : AC49) (mT : TyT) (mG : TyMG) (mR : TyMR) (mU : TyMU) (nl nm nk : FN) (q n x : Int) (mO : TyO) (mS : TyMS) (mN : TyMN) (t : AH) {Q : AQ} (hn : 0 ≤ n ∧ n ≤ 200) (htp : ∀ i, 0 ≤ mT.1 i ∧ mT.1 i ≤ 255) (hq : 0 ≤ q ∧ q ≤ n) (hsk : sk mT.1 n q = q)
    (h1 : q < n ∧ mT.1 q = 59 → Q none (CV a (MH mT mG mR mU (nl, nm, nk, 0, -1, q + 1, n, x + 1) mO mS mN t)))
    (h2 : ¬ (q < n ∧ mT.1 q = 59) → ∀ mP', FT mP' 1 q n → Q none (CV a (MH mT mG mR mU mP' mO mS mN t))) :
    AW X (d + 6) 0 0 119 51 [rf 49] [] (CV a (MH mT mG mR mU (nl, nm, nk, 0, -1, q, n, x) mO mS mN t)) Q := by
  have ht := htp q
  refine aw_tree (I0_ok X _) [(false, 49), (true, 24)] [] rfl ?_
  dsimp only
  repeat' (first | refine And.intro ?_ ?_ | (refine aImp_e0 ?_; intro _) | (refine aImp_n0 ?_; intro _) | (refine aImp_i ?_; intro _))
  all_goals (try (first | omega | exact bI_01 _ | exact bI_lo _ | exact bI_hi _ | exact bI_hi' _ | exact trivial | exact Or.inl rfl | exact Or.inr rfl | (exfalso; omega)))
  refine aw_cf0 (m_here _ a mT mG mR mU nl nm nk 0 (-1) q n x mO mS mN t hn htp hq) rfl ?_
  rw [hsk]
  by_cases hh : q < n ∧ mT.1 q = 59
  · rw [cif_t hh.1]
    have goal := h1 hh
    refine aw_tree (I0_ok X _) [(false, 49), (true, 24)] [] rfl ?_
    dsimp only
    repeat' (first | refine And.intro ?_ ?_ | (refine aImp_e0 ?_; intro _) | (refine aImp_n0 ?_; intro _) | (refine aImp_i ?_; intro _))
    all_goals (try (first | omega | exact bI_01 _ | exact bI_lo _ | exact bI_hi _ | exact bI_hi' _ | exact trivial | exact Or.inl rfl | exact Or.inr rfl | (exfalso; omega)))
    exact goal
  · have hv : inR (cif (q < n) (mT.1 q) (-1)) ∧ cif (q < n) (mT.1 q) (-1) ≠ 59 := by
      unfold inR
      by_cases h : q < n
      · rw [cif_t h]; omega
      · rw [cif_f h]; omega
    obtain ⟨hv1, hv2⟩ := hv
    unfold inR at hv1
    refine aw_tree (I0_ok X _) [(false, 49), (true, 24)] [] rfl ?_
    dsimp only
    repeat' (first | refine And.intro ?_ ?_ | (refine aImp_e0 ?_; intro _) | (refine aImp_n0 ?_; intro _) | (refine aImp_i ?_; intro _))
    all_goals (try (first | omega | exact bI_01 _ | exact bI_lo _ | exact bI_hi _ | exact bI_hi' _ | exact trivial | exact Or.inl rfl | exact Or.inr rfl | (exfalso; omega)))
    refine aw_cf0 (m_blame _ a mT mG mR mU (nl, nm, nk, 0, -1, q, n, x) mO mS mN t 1 q rfl) rfl ?_
    refine aw_tree (I0_ok X _) [(false, 49), (true, 24)] [] rfl ?_
    dsimp only
    repeat' (first | refine And.intro ?_ ?_ | (refine aImp_e0 ?_; intro _) | (refine aImp_n0 ?_; intro _) | (refine aImp_i ?_; intro _))
    all_goals (try (first | omega | exact bI_01 _ | exact bI_lo _ | exact bI_hi _ | exact bI_hi' _ | exact trivial | exact Or.inl rfl | exact Or.inr rfl | (exfalso; omega)))
    exact h2 hh (nl, nm, nk, 1, q, q + 1, n, x + 1) ⟨rfl, rfl, by (try dsimp only); omega, rfl⟩
theorem m_line_bad {X : AX} (d : Nat) (a : AC49) (mT : TyT) (mG : TyMG) (mR : TyMR) (mU : TyMU) (mP : TyMP) (mO : TyO) (mS : TyMS) (mN : TyMN) (t : AH) {Q : AQ} {kd pl n : Int} (hf : FT mP kd pl n) (hk : kd = 1 ∨ kd = 2) (j : Nat) (hj : j = 8 ∨ j = 35) (hQ : Q none (CV a (MH mT mG mR mU mP mO mS mN t))) : AW X (d + 6) 0 0 119 j [rf 49] [] (CV a (MH mT mG mR mU mP mO mS mN t)) Q := by
  have e := hf.1
  rcases hj with rfl | rfl
  · refine aw_tree (I0_ok X _) [(false, 49), (true, 24)] [] rfl ?_
    dsimp only
    repeat' (first | refine And.intro ?_ ?_ | (refine aImp_e0 ?_; intro _) | (refine aImp_n0 ?_; intro _) | (refine aImp_i ?_; intro _))
    all_goals (try (first | omega | exact bI_01 _ | exact bI_lo _ | exact bI_hi _ | exact bI_hi' _ | exact trivial | exact Or.inl rfl | exact Or.inr rfl | (exfalso; omega)))
    exact hQ
  · refine aw_tree (I0_ok X _) [(false, 49), (true, 24)] [] rfl ?_
    dsimp only
    repeat' (first | refine And.intro ?_ ?_ | (refine aImp_e0 ?_; intro _) | (refine aImp_n0 ?_; intro _) | (refine aImp_i ?_; intro _))
    all_goals (try (first | omega | exact bI_01 _ | exact bI_lo _ | exact bI_hi _ | exact bI_hi' _ | exact trivial | exact Or.inl rfl | exact Or.inr rfl | (exfalso; omega)))
    exact hQ
/-- what a line leads to: a fault, or the next line -/
def LQ (Q : AQ) (a : AC49) (mT : TyT) (mG : TyMG) (mR : TyMR) (mU : TyMU) (mO : TyO) (mS : TyMS) (mN : TyMN) (t : AH) (n : Int) (R : PR) (f0 : Nat) : Prop :=
  (∀ mP', (R.1 = 1 ∨ R.1 = 2) → FT mP' R.1 R.2.1 n → Q none (CV a (MH mT mG mR mU mP' mO mS mN t))) ∧
  (∀ (f : Nat) (p K sg : Int) (pb : PB), f < f0 → inv n 0 0 p K pb → n - p < f → prs mT.1 n f 0 p sg pb = R → Q none (CV a (MH mT mG mR mU (pb.1, pb.2.1, pb.2.2.1, 0, -1, p, n, pb.2.2.2) mO mS mN t)))
theorem m_line5 {X : AX} (d : Nat) (a : AC49) (mT : TyT) (mG : TyMG) (mR : TyMR) (mU : TyMU) (n : Int) (mO : TyO) (mS : TyMS) (mN : TyMN) (t : AH) {Q : AQ} {R : PR} {f0 : Nat} (htp : ∀ i, 0 ≤ mT.1 i ∧ mT.1 i ≤ 255) (hQ : LQ Q a mT mG mR mU mO mS mN t n R f0) :
    ∀ (f : Nat) (p K sg : Int) (pb : PB), f ≤ f0 → inv n 1 0 p K pb → n - p < f → prs mT.1 n f 5 p sg pb = R → AW X (d + 6) 0 0 119 35 [rf 49] [] (CV a (MH mT mG mR mU (pb.1, pb.2.1, pb.2.2.1, 0, -1, p, n, pb.2.2.2) mO mS mN t)) Q := by
  obtain ⟨hF, hS⟩ := hQ
  intro f
  induction f using Nat.strongRecOn with
  | _ f ih =>
    intro p K sg pb hf hi hfu hR
    obtain ⟨a1, a2, a3, a4, a5, a6⟩ := hi
    have hi : inv n 1 0 p K pb := ⟨a1, a2, a3, a4, a5, a6⟩
    obtain ⟨k1, k2, k3⟩ := sk_ok (tp := mT.1) (n := n) _ p rfl
    have k2' := k2 (by omega)
    have hcl := cnt_le pb.1
    have ao := a6 pb.2.2.2 a2 (by omega)
    obtain ⟨f1, rfl⟩ : ∃ f1, f = f1 + 1 := ⟨f - 1, by omega⟩
    have ht := htp (sk mT.1 n p)
    refine aw_tree (I0_ok X _) [(false, 49), (true, 24)] [] rfl ?_
    dsimp only
    repeat' (first | refine And.intro ?_ ?_ | (refine aImp_e0 ?_; intro _) | (refine aImp_n0 ?_; intro _) | (refine aImp_i ?_; intro _))
    all_goals (try (first | omega | exact bI_01 _ | exact bI_lo _ | exact bI_hi _ | exact bI_hi' _ | exact trivial | exact Or.inl rfl | exact Or.inr rfl | (exfalso; omega)))
    refine aw_cf0 (m_here _ a mT mG mR mU pb.1 pb.2.1 pb.2.2.1 0 (-1) p n pb.2.2.2 mO mS mN t (by omega) htp (by omega)) rfl ?_
    by_cases hc : tk mT.1 n (sk mT.1 n p) = 16
    · have hc' := tk_comma.mp hc
      rw [cif_t hc'.1]
      rw [prs_5c hc, nx_c hc'.1 (wl_c0 (Or.inl hc'.2))] at hR
      refine aw_tree (I0_ok X _) [(false, 49), (true, 24)] [] rfl ?_
      dsimp only
      repeat' (first | refine And.intro ?_ ?_ | (refine aImp_e0 ?_; intro _) | (refine aImp_n0 ?_; intro _) | (refine aImp_i ?_; intro _))
      all_goals (try (first | omega | exact bI_01 _ | exact bI_lo _ | exact bI_hi _ | exact bI_hi' _ | exact trivial | exact Or.inl rfl | exact Or.inr rfl | (exfalso; omega)))
      obtain ⟨f2, rfl⟩ : ∃ f2, f1 = f2 + 1 := ⟨f1 - 1, by omega⟩
      obtain ⟨j1, j2, j3⟩ := sk_ok (tp := mT.1) (n := n) _ (sk mT.1 n p + 1) rfl
      have j2' := j2 (by omega)
      refine aw_ck0 (m_key d a mT mG mR mU pb.1 pb.2.1 pb.2.2.1 (-1) (sk mT.1 n p + 1) n pb.2.2.2 mO mS mN t (by omega) htp (by omega) (by omega) (by omega) (fun sg' p1 hsg hp1 hfd => ?_) (fun sg' p1 hsg hp1 hfd mP' hft => ?_) (fun hl hm mP' hft => ?_)) rfl
      · have g1 := tk_sg (tp := mT.1) (n := n) (q := sk mT.1 n (sk mT.1 n p + 1)) (by omega)
        have g2 := tk_fd hfd
        have e1 := nx_w (tp := mT.1) (n := n) (q := sk mT.1 n (sk mT.1 n p + 1)) (by omega)
        have e2 := nx_w (tp := mT.1) (n := n) (q := sk mT.1 n p1) (by omega)
        have e3 := nx_ok (tp := mT.1) g1.2
        have e4 := nx_ok (tp := mT.1) g2.2
        have gap := sk_gap (tp := mT.1) (n := n) (q := sk mT.1 n (sk mT.1 n p + 1)) (by omega) (by rw [← e1, ← hp1]; omega)
        rw [← e1, ← hp1] at gap
        have hs1 : prs mT.1 n (f2 + 1) 3 (sk mT.1 n p + 1) sg pb = prs mT.1 n f2 4 p1 sg' pb := by
          rcases hsg with h | h
          · rw [prs_3l h.1, h.2, hp1]
          · rw [prs_3m h.1, h.2, hp1]
        obtain ⟨f3, rfl⟩ : ∃ f3, f2 = f3 + 1 := ⟨f2 - 1, by omega⟩
        rw [hs1, prs_4k hfd] at hR
        refine aw_tree (I0_ok X _) [(false, 49), (true, 24)] [35] rfl ?_
        exact ih f3 (by omega) (nx mT.1 n (sk mT.1 n p1)) (K + 1) sg' _ (by omega) (inv_K (inv_4 (p' := p1) hi (by omega)) (by omega) (by omega) (by omega)) (by omega) hR
      · have hs1 : prs mT.1 n (f2 + 1) 3 (sk mT.1 n p + 1) sg pb = prs mT.1 n f2 4 p1 sg' pb := by
          rcases hsg with h | h
          · rw [prs_3l h.1, h.2, hp1]
          · rw [prs_3m h.1, h.2, hp1]
        have g1 := tk_sg (tp := mT.1) (n := n) (q := sk mT.1 n (sk mT.1 n p + 1)) (by omega)
        have e3 := nx_ok (tp := mT.1) g1.2
        obtain ⟨f3, rfl⟩ : ∃ f3, f2 = f3 + 1 := ⟨f2 - 1, by omega⟩
        rw [hs1, prs_4x hfd] at hR
        refine aw_tree (I0_ok X _) [(false, 49), (true, 24)] [35] rfl ?_
        refine m_line_bad d a mT mG mR mU mP' mO mS mN t hft (Or.inl rfl) 35 (Or.inr rfl) (hF mP' ?_ ?_)
        · rw [← hR]; exact Or.inl rfl
        · rw [← hR]; exact hft
      · rw [prs_3x hl hm] at hR
        refine aw_tree (I0_ok X _) [(false, 49), (true, 24)] [35] rfl ?_
        refine m_line_bad d a mT mG mR mU mP' mO mS mN t hft (Or.inl rfl) 35 (Or.inr rfl) (hF mP' ?_ ?_)
        · rw [← hR]; exact Or.inl rfl
        · rw [← hR]; exact hft
    · have hc' : ¬ (sk mT.1 n p < n ∧ mT.1 (sk mT.1 n p) = 44) := fun h => hc (tk_comma.mpr h)
      have hv : inR (cif (sk mT.1 n p < n) (mT.1 (sk mT.1 n p)) (-1)) ∧ cif (sk mT.1 n p < n) (mT.1 (sk mT.1 n p)) (-1) ≠ 44 := by
        unfold inR
        by_cases h : sk mT.1 n p < n
        · rw [cif_t h]; omega
        · rw [cif_f h]; omega
      obtain ⟨hv1, hv2⟩ := hv
      unfold inR at hv1
      refine aw_tree (I0_ok X _) [(false, 49), (true, 24)] [51] rfl ?_
      dsimp only
      repeat' (first | refine And.intro ?_ ?_ | (refine aImp_e0 ?_; intro _) | (refine aImp_n0 ?_; intro _) | (refine aImp_i ?_; intro _))
      all_goals (try (first | omega | exact bI_01 _ | exact bI_lo _ | exact bI_hi _ | exact bI_hi' _ | exact trivial | exact Or.inl rfl | exact Or.inr rfl | (exfalso; omega)))
      refine m_line_end d a mT mG mR mU pb.1 pb.2.1 pb.2.2.1 (sk mT.1 n p) n pb.2.2.2 mO mS mN t (by omega) htp (by omega) sk_sk (fun h => ?_) (fun h mP' hft => ?_)
      · have hc3 := tk_semi.mpr h
        rw [prs_5s hc3, nx_c h.1 (wl_c0 (Or.inr h.2))] at hR
        exact hS f1 (sk mT.1 n p + 1) K sg _ (by omega) (inv_C hi (by omega)) (by omega) hR
      · rw [prs_5x hc (fun k => h (tk_semi.mp k))] at hR
        refine hF mP' ?_ ?_
        · rw [← hR]; exact Or.inl rfl
        · rw [← hR]; exact hft
theorem m_line2 {X : AX} (d : Nat) (a : AC49) (mT : TyT) (mG : TyMG) (mR : TyMR) (mU : TyMU) (n : Int) (mO : TyO) (mS : TyMS) (mN : TyMN) (t : AH) {Q : AQ} {R : PR} {f0 : Nat} (htp : ∀ i, 0 ≤ mT.1 i ∧ mT.1 i ≤ 255) (hQ : LQ Q a mT mG mR mU mO mS mN t n R f0) :
    ∀ (f : Nat) (p K sg : Int) (pb : PB), f ≤ f0 → inv n 1 0 p K pb → n - p < f → prs mT.1 n f 2 p sg pb = R → AW X (d + 6) 0 0 119 8 [rf 49] [] (CV a (MH mT mG mR mU (pb.1, pb.2.1, pb.2.2.1, 0, -1, p, n, pb.2.2.2) mO mS mN t)) Q := by
  have hQ' := hQ
  obtain ⟨hF, hS⟩ := hQ'
  intro f
  induction f using Nat.strongRecOn with
  | _ f ih =>
    intro p K sg pb hf hi hfu hR
    obtain ⟨a1, a2, a3, a4, a5, a6⟩ := hi
    have hi : inv n 1 0 p K pb := ⟨a1, a2, a3, a4, a5, a6⟩
    obtain ⟨k1, k2, k3⟩ := sk_ok (tp := mT.1) (n := n) _ p rfl
    have k2' := k2 (by omega)
    have hcl := cnt_le pb.1
    have ao := a6 pb.2.2.2 a2 (by omega)
    obtain ⟨f1, rfl⟩ : ∃ f1, f = f1 + 1 := ⟨f - 1, by omega⟩
    have ht := htp (sk mT.1 n p)
    refine aw_tree (I0_ok X _) [(false, 49), (true, 24)] [] rfl ?_
    dsimp only
    repeat' (first | refine And.intro ?_ ?_ | (refine aImp_e0 ?_; intro _) | (refine aImp_n0 ?_; intro _) | (refine aImp_i ?_; intro _))
    all_goals (try (first | omega | exact bI_01 _ | exact bI_lo _ | exact bI_hi _ | exact bI_hi' _ | exact trivial | exact Or.inl rfl | exact Or.inr rfl | (exfalso; omega)))
    refine aw_cf0 (m_here _ a mT mG mR mU pb.1 pb.2.1 pb.2.2.1 0 (-1) p n pb.2.2.2 mO mS mN t (by omega) htp (by omega)) rfl ?_
    by_cases hc : tk mT.1 n (sk mT.1 n p) = 16
    · have hc' := tk_comma.mp hc
      rw [cif_t hc'.1]
      rw [prs_2c hc, nx_c hc'.1 (wl_c0 (Or.inl hc'.2))] at hR
      refine aw_tree (I0_ok X _) [(false, 49), (true, 24)] [] rfl ?_
      dsimp only
      repeat' (first | refine And.intro ?_ ?_ | (refine aImp_e0 ?_; intro _) | (refine aImp_n0 ?_; intro _) | (refine aImp_i ?_; intro _))
      all_goals (try (first | omega | exact bI_01 _ | exact bI_lo _ | exact bI_hi _ | exact bI_hi' _ | exact trivial | exact Or.inl rfl | exact Or.inr rfl | (exfalso; omega)))
      obtain ⟨f2, rfl⟩ : ∃ f2, f1 = f2 + 1 := ⟨f1 - 1, by omega⟩
      obtain ⟨j1, j2, j3⟩ := sk_ok (tp := mT.1) (n := n) _ (sk mT.1 n p + 1) rfl
      have j2' := j2 (by omega)
      refine aw_ck0 (m_letter _ a mT mG mR mU pb.1 pb.2.1 pb.2.2.1 (-1) (sk mT.1 n p + 1) n pb.2.2.2 mO mS mN t (by omega) htp (by omega) (fun k h0 h1 => by have := a4 k h0 h1; omega) (fun h1 h2 => ?_) (fun h1 h2 mP' hft => ?_) (fun h1 mP' hft => ?_)) rfl
      · have hq : sk mT.1 n (sk mT.1 n p + 1) < n := by
          rcases Int.lt_or_le (sk mT.1 n (sk mT.1 n p + 1)) n with h | h
          · exact h
          · have := tk_end (tp := mT.1) h; omega
        have e3 := nx_ok (tp := mT.1) hq
        rw [prs_L (Or.inr rfl) h1 h2] at hR
        have goal := ih f2 (by omega) (nx mT.1 n (sk mT.1 n (sk mT.1 n p + 1))) K sg _ (by omega) (inv_L (Or.inr rfl) hi (by omega) h1 h2) (by omega) hR
        rw [cif_f (by omega)] at goal
        refine aw_tree (I0_ok X _) [(false, 49), (true, 24)] [8] rfl ?_
        exact goal
      · rw [prs_L2 (Or.inr rfl) h1 h2] at hR
        refine aw_tree (I0_ok X _) [(false, 49), (true, 24)] [8] rfl ?_
        refine m_line_bad d a mT mG mR mU mP' mO mS mN t hft (Or.inr rfl) 8 (Or.inl rfl) (hF mP' ?_ ?_)
        · rw [← hR]; exact Or.inr rfl
        · rw [← hR]; exact hft
      · rw [prs_L1 (Or.inr rfl) h1 (by omega)] at hR
        refine aw_tree (I0_ok X _) [(false, 49), (true, 24)] [8] rfl ?_
        refine m_line_bad d a mT mG mR mU mP' mO mS mN t hft (Or.inl rfl) 8 (Or.inl rfl) (hF mP' ?_ ?_)
        · rw [← hR]; exact Or.inl rfl
        · rw [← hR]; exact hft
    · have hc' : ¬ (sk mT.1 n p < n ∧ mT.1 (sk mT.1 n p) = 44) := fun h => hc (tk_comma.mpr h)
      have hv : inR (cif (sk mT.1 n p < n) (mT.1 (sk mT.1 n p)) (-1)) ∧ cif (sk mT.1 n p < n) (mT.1 (sk mT.1 n p)) (-1) ≠ 44 := by
        unfold inR
        by_cases h : sk mT.1 n p < n
        · rw [cif_t h]; omega
        · rw [cif_f h]; omega
      obtain ⟨hv1, hv2⟩ := hv
      unfold inR at hv1
      refine aw_tree (I0_ok X _) [(false, 49), (true, 24)] [51] rfl ?_
      dsimp only
      repeat' (first | refine And.intro ?_ ?_ | (refine aImp_e0 ?_; intro _) | (refine aImp_n0 ?_; intro _) | (refine aImp_i ?_; intro _))
      all_goals (try (first | omega | exact bI_01 _ | exact bI_lo _ | exact bI_hi _ | exact bI_hi' _ | exact trivial | exact Or.inl rfl | exact Or.inr rfl | (exfalso; omega)))
      refine aw_ck0 (m_passes_by _ a mT mG mR mU pb.1 pb.2.1 pb.2.2.1 0 (-1) (sk mT.1 n p) n pb.2.2.2 mO mS mN t (by omega) htp (by omega) (fun hy => ?_) (fun hno => ?_)) rfl
      · rw [sk_sk] at hy ⊢
        have hby := tk_by.mpr hy
        have hwl := hy.1
        have hp := wl_pos (tp := mT.1) (n := n) (q := sk mT.1 n p) (by omega)
        have e0 : nx mT.1 n (sk mT.1 n p) = sk mT.1 n p + 2 := by rw [nx_w (by omega), hwl]
        have e0' := nx_ok (tp := mT.1) hp.1
        rw [prs_2by hby, e0] at hR
        refine aw_tree (I0_ok X _) [(false, 49), (true, 24)] [] rfl ?_
        dsimp only
        repeat' (first | refine And.intro ?_ ?_ | (refine aImp_e0 ?_; intro _) | (refine aImp_n0 ?_; intro _) | (refine aImp_i ?_; intro _))
        all_goals (try (first | omega | exact bI_01 _ | exact bI_lo _ | exact bI_hi _ | exact bI_hi' _ | exact trivial | exact Or.inl rfl | exact Or.inr rfl | (exfalso; omega)))
        obtain ⟨f2, rfl⟩ : ∃ f2, f1 = f2 + 1 := ⟨f1 - 1, by omega⟩
        obtain ⟨j1, j2, j3⟩ := sk_ok (tp := mT.1) (n := n) _ (sk mT.1 n p + 2) rfl
        have j2' := j2 (by omega)
        refine aw_ck0 (m_key d a mT mG mR mU pb.1 pb.2.1 pb.2.2.1 (-1) (sk mT.1 n p + 2) n pb.2.2.2 mO mS mN t (by omega) htp (by omega) (by omega) (by omega) (fun sg' p1 hsg hp1 hfd => ?_) (fun sg' p1 hsg hp1 hfd mP' hft => ?_) (fun hl hm mP' hft => ?_)) rfl
        · have g1 := tk_sg (tp := mT.1) (n := n) (q := sk mT.1 n (sk mT.1 n p + 2)) (by omega)
          have g2 := tk_fd hfd
          have e1 := nx_w (tp := mT.1) (n := n) (q := sk mT.1 n (sk mT.1 n p + 2)) (by omega)
          have e2 := nx_w (tp := mT.1) (n := n) (q := sk mT.1 n p1) (by omega)
          have e3 := nx_ok (tp := mT.1) g1.2
          have e4 := nx_ok (tp := mT.1) g2.2
          have gap := sk_gap (tp := mT.1) (n := n) (q := sk mT.1 n (sk mT.1 n p + 2)) (by omega) (by rw [← e1, ← hp1]; omega)
          rw [← e1, ← hp1] at gap
          have hs1 : prs mT.1 n (f2 + 1) 3 (sk mT.1 n p + 2) sg pb = prs mT.1 n f2 4 p1 sg' pb := by
            rcases hsg with h | h
            · rw [prs_3l h.1, h.2, hp1]
            · rw [prs_3m h.1, h.2, hp1]
          obtain ⟨f3, rfl⟩ : ∃ f3, f2 = f3 + 1 := ⟨f2 - 1, by omega⟩
          rw [hs1, prs_4k hfd] at hR
          exact m_line5 d a mT mG mR mU n mO mS mN t htp hQ f3 (nx mT.1 n (sk mT.1 n p1)) (K + 1) sg' _ (by omega) (inv_K (inv_4 (p' := p1) hi (by omega)) (by omega) (by omega) (by omega)) (by omega) hR
        · have hs1 : prs mT.1 n (f2 + 1) 3 (sk mT.1 n p + 2) sg pb = prs mT.1 n f2 4 p1 sg' pb := by
            rcases hsg with h | h
            · rw [prs_3l h.1, h.2, hp1]
            · rw [prs_3m h.1, h.2, hp1]
          have g1 := tk_sg (tp := mT.1) (n := n) (q := sk mT.1 n (sk mT.1 n p + 2)) (by omega)
          have e3 := nx_ok (tp := mT.1) g1.2
          obtain ⟨f3, rfl⟩ : ∃ f3, f2 = f3 + 1 := ⟨f2 - 1, by omega⟩
          rw [hs1, prs_4x hfd] at hR
          refine m_line_bad d a mT mG mR mU mP' mO mS mN t hft (Or.inl rfl) 35 (Or.inr rfl) (hF mP' ?_ ?_)
          · rw [← hR]; exact Or.inl rfl
          · rw [← hR]; exact hft
        · rw [prs_3x hl hm] at hR
          refine m_line_bad d a mT mG mR mU mP' mO mS mN t hft (Or.inl rfl) 35 (Or.inr rfl) (hF mP' ?_ ?_)
          · rw [← hR]; exact Or.inl rfl
          · rw [← hR]; exact hft
      · rw [sk_sk] at hno ⊢
        refine aw_tree (I0_ok X _) [(false, 49), (true, 24)] [51] rfl ?_
        dsimp only
        repeat' (first | refine And.intro ?_ ?_ | (refine aImp_e0 ?_; intro _) | (refine aImp_n0 ?_; intro _) | (refine aImp_i ?_; intro _))
        all_goals (try (first | omega | exact bI_01 _ | exact bI_lo _ | exact bI_hi _ | exact bI_hi' _ | exact trivial | exact Or.inl rfl | exact Or.inr rfl | (exfalso; omega)))
        refine m_line_end d a mT mG mR mU pb.1 pb.2.1 pb.2.2.1 (sk mT.1 n p) n pb.2.2.2 mO mS mN t (by omega) htp (by omega) sk_sk (fun h => ?_) (fun h mP' hft => ?_)
        · have hc3 := tk_semi.mpr h
          rw [prs_2s hc3, nx_c h.1 (wl_c0 (Or.inr h.2))] at hR
          exact hS f1 (sk mT.1 n p + 1) K sg _ (by omega) (inv_C hi (by omega)) (by omega) hR
        · rw [prs_2x (fun k => hno (tk_by.mp k)) hc (fun k => h (tk_semi.mp k))] at hR
          refine hF mP' ?_ ?_
          · rw [← hR]; exact Or.inl rfl
          · rw [← hR]; exact hft
theorem m_line {X : AX} (d : Nat) (a : AC49) (mT : TyT) (mG : TyMG) (mR : TyMR) (mU : TyMU) (n : Int) (mO : TyO) (mS : TyMS) (mN : TyMN) (t : AH) {Q : AQ} {R : PR} (f : Nat) (p K sg : Int) (pb : PB) (htp : ∀ i, 0 ≤ mT.1 i ∧ mT.1 i ≤ 255) (hQ : LQ Q a mT mG mR mU mO mS mN t n R f) (hi : inv n 0 0 p K pb) (hfu : n - p < f) (hR : prs mT.1 n f 0 p sg pb = R) (hq : sk mT.1 n p < n) :
    AW X (d + 6) 0 0 119 0 (aEntry 119 [rf 49]) [] (CV a (MH mT mG mR mU (pb.1, pb.2.1, pb.2.2.1, 0, -1, p, n, pb.2.2.2) mO mS mN t)) Q := by
  have hi' := hi
  obtain ⟨a1, a2, a3, a4, a5, a6⟩ := hi'
  obtain ⟨k1, k2, k3⟩ := sk_ok (tp := mT.1) (n := n) _ p rfl
  have hcl := cnt_le pb.1
  have hF := hQ.1
  obtain ⟨f1, rfl⟩ : ∃ f1, f = f1 + 1 := ⟨f - 1, by omega⟩
  have hne : ¬ tk mT.1 n (sk mT.1 n p) = 18 := fun h => by have := tk_eoi.mp h; omega
  have e3 := nx_ok (tp := mT.1) hq
  refine aw_tree (I0_ok X _) [(false, 49), (true, 24)] [] rfl ?_
  dsimp only
  repeat' (first | refine And.intro ?_ ?_ | (refine aImp_e0 ?_; intro _) | (refine aImp_n0 ?_; intro _) | (refine aImp_i ?_; intro _))
  all_goals (try (first | omega | exact bI_01 _ | exact bI_lo _ | exact bI_hi _ | exact bI_hi' _ | exact trivial | exact Or.inl rfl | exact Or.inr rfl | (exfalso; omega)))
  refine aw_ck0 (m_letter _ a mT mG mR mU pb.1 (aUp pb.2.1 pb.2.2.2 0) pb.2.2.1 (-1) p n pb.2.2.2 mO mS mN t (by omega) htp (by omega) (fun k h0 h1 => by have := a4 k h0 h1; omega) (fun h1 h2 => ?_) (fun h1 h2 mP' hft => ?_) (fun h1 mP' hft => ?_)) rfl
  · rw [prs_L (Or.inl rfl) h1 h2] at hR
    have goal := m_line2 (X := X) d a mT mG mR mU n mO mS mN t htp hQ f1 (nx mT.1 n (sk mT.1 n p)) K sg _ (by omega) (inv_L (Or.inl rfl) hi (by omega) h1 h2) (by omega) hR
    rw [cif_t rfl] at goal
    exact goal
  · rw [prs_L2 (Or.inl rfl) h1 h2] at hR
    refine m_line_bad d a mT mG mR mU mP' mO mS mN t hft (Or.inr rfl) 8 (Or.inl rfl) (hF mP' ?_ ?_)
    · rw [← hR]; exact Or.inr rfl
    · rw [← hR]; exact hft
  · rw [prs_L1 (Or.inl rfl) h1 (fun h => hne h.2)] at hR
    refine m_line_bad d a mT mG mR mU mP' mO mS mN t hft (Or.inl rfl) 8 (Or.inl rfl) (hF mP' ?_ ?_)
    · rw [← hR]; exact Or.inl rfl
    · rw [← hR]; exact hft

theorem smN_aUp {e : Int → Int} {g v : Int} (h0 : 0 ≤ g) : ∀ (n : Nat), g < (n : Int) → smN (aUp e g v) n = smN e n + (v - e g) := by
  intro n hn
  have e2 := smN_one (a := g) (v := v - e g) h0 n
  rw [cif_t hn] at e2
  rw [smN_add (e := e) (e' := fun k => cif (k = g) (v - e g) 0) (e'' := aUp e g v) n (fun k k0 k1 => ?_), e2]
  by_cases c : k = g
  · rw [c, aUp_s, cif_t rfl]; omega
  · rw [aUp_n _ _ c, cif_f c]; omega
abbrev mGg (mG : TyMG) (g v : Int) : TyMG := (mG.1, aUp mG.2.1 g v, mG.2.2.1, mG.2.2.2)
theorem gn_rG {G : TyG} {mG : TyMG} {g v : Int} (h : rG G mG) (hg : 0 ≤ g ∧ g < mG.2.2.2) (hv : v = 0 ∨ v = 1) (hne : mG.2.1 g ≠ v) : rG (gnG G g v) (mGg mG g v) := by
  obtain ⟨h1, h2, h3, h4, h5, h6, h7, h8⟩ := h
  obtain ⟨g1, g2, g3, g4, g5, g6⟩ := h1
  have h01 := g5 g
  refine ⟨⟨g1, g2, g3, g4, ?_, g6⟩, ⟨h2.1, h2.2.1, fun x x0 x1 => ?_⟩, h3, ?_, h5, fun x x0 x1 => ?_, h7, h8⟩
  · exact aUp_P (P := fun z => z = 0 ∨ z = 1) g5 hv
  · show aUp G.2.2.2.2.2.2.1 g v x = aUp mG.2.1 g v x
    by_cases e : x = g
    · rw [e, aUp_s, aUp_s]
    · rw [aUp_n _ _ e, aUp_n _ _ e]; exact h2.2.2 x x0 x1
  · show G.2.2.2.2.2.2.2.2.2.1 + (if v = 0 then -1 else 1) = smN (aUp mG.2.1 g v) mG.2.2.2.toNat
    rw [smN_aUp hg.1 _ (by omega), h4]
    rcases hv with rfl | rfl
    · rw [if_pos rfl]; omega
    · rw [if_neg (by omega)]; omega
  · show aUp mG.2.1 g v x = 0
    have x0' : mG.2.2.2 ≤ x := x0
    rw [aUp_n _ _ (by omega)]
    exact h6 x x0 x1
theorem J_gone0 {X : AX} (ss : Nat) (T : TyT) (G : TyG) (L : TyL) (O : TyO) (R : TyR) (P : TyP) (C : TyC) (B D : TyB) (S N : TyS) (β : List TyBn) (mT : TyT) (mG : TyMG) (mR : TyMR) (mU : TyMU) (mP : TyMP) (mO : TyO) (mS : TyMS) (mN : TyMN) (h : RR 0 ss T G L O R C B D S N β mT mG mR mU mP mS mN) (g v : Int) (hg : inR g) (hv : v = 0 ∨ v = 1) : JS X 0 0 81 107 [iv g, iv v] (CV (CA 0 ss T G L O R P C B D S N) (MV (MA mT mG mR mU mP mO mS mN) (BH 73 β))) (MA mT mG mR mU mP mO mS mN) := by
  have h0 := h
  obtain ⟨hsb, hss, hT, hG, hH, hF, hO, hf, hU, hB, hS, hN, hX⟩ := h
  have hB' : rB B mU := hB
  have hc0 := hG.1.1
  have hcc := hG.2.1.1
  obtain ⟨e1, e2, e3, e4⟩ := rO_eq (mO := mO) hG.1 hO
  obtain ⟨_, _, hstr⟩ := ordM_ok (mG := mG) (mU := mU) (mO := mO) hG.1
  have hO0 := hO.1
  have hgv : ∀ x, 0 ≤ x → x < 32 → G.2.2.2.2.2.2.1 x = mG.2.1 x := hG.2.1.2.2
  have hnew : (0 ≤ g ∧ g < mG.2.2.2) → mG.2.1 g ≠ v → ∀ O' : TyO, ordI (ahM mG mU) (inM (mGg mG g v) mU) O'.1 O'.2 → RR 0 ss T (gnG G g v) L O' R C B D S N β mT (mGg mG g v) mR mU mP mS mN := fun q1 q2 O' hO' => ⟨hsb, hss, hT, gn_rG hG q1 hv q2, hH, hF, hO', hf, hU, hB, hS, hN, hX⟩
  have conv : ((0 ≤ g ∧ g < G.2.2.2.2.2.2.2.2.1) ∧ G.2.2.2.2.2.2.1 g ≠ v) ↔ ((0 ≤ g ∧ g < mG.2.2.2) ∧ mG.2.1 g ≠ v) := by
    rw [hcc]
    constructor
    · rintro ⟨a, b⟩
      exact ⟨a, by rw [← hgv g a.1 (by omega)]; exact b⟩
    · rintro ⟨a, b⟩
      exact ⟨a, by rw [hgv g a.1 (by omega)]; exact b⟩
  have stay : ∀ q : (0 ≤ g ∧ g < mG.2.2.2) ∧ mG.2.1 g ≠ v, ∀ O' : TyO, ordI (ahM mG mU) (inM (mGg mG g v) mU) O'.1 O'.2 → AW X 11 0 0 107 0 (aEntry 107 (rf 49 :: [iv g, iv v])) [] (CV (CA 0 ss T (gnG G g v) L O' R P C B D S N) (MV (MA mT mG mR mU mP mO mS mN) (BH 73 β))) (fun r' h'' => r' = some (iv 1) ∧ Inv h'') := by
    intro q O' hO'
    exact m_gone 7 _ mT mG mR mU mP mO mS mN (BH 73 β) g v hg hv hc0 hG.1.2.2.2.2.1 (fun z => absurd q z) (fun _ => ⟨rfl, Inv_mk 0 ss T (gnG G g v) L O' R P C B D S N β mT (mGg mG g v) mR mU mP mO mS mN (hnew q.1 q.2 O' hO')⟩)
  have h01 := hG.1.2.2.2.2.1 g
  refine c_gone0 6 ss T G L O R P C B D S N (MV (MA mT mG mR mU mP mO mS mN) (BH 73 β)) g v (mGg mG g v) mU hg hv (by omega) (fun i i0 i1 => by rw [hgv i i0 i1]; exact hG.1.2.2.2.2.1 i) hU hB' (by omega) (fun i i0 i1 => inR_c (by have := e4 i i0 i1; omega)) (fun q z => ?_) (fun q => ?_) (fun q z ql => ?_) (fun q z ql => ?_) (fun q z ql => ?_) (fun q z j j0 j1 j2 f f1 f2 => ?_)
  · have q' := conv.mp q
    have hr := gn_rG hG q'.1 hv q'.2
    have hni : ¬ inM mG mU g := fun k => by have := k.2.1; omega
    have := hstr ⟨g, q'.1.1, q'.1.2, hni⟩
    refine ⟨hr.1, hr.2.1, by omega, fun i i0 i1 => ?_⟩
    have h4 := e4 i i0 i1
    exact ⟨by omega, h4.2.2.2⟩
  · refine ⟨0, CA 0 ss T G L O R P C B D S N, BH 73 β, inR_c (by omega), rfl, rfl, ?_⟩
    exact m_gone 7 (CA 0 ss T G L O R P C B D S N) mT mG mR mU mP mO mS mN (BH 73 β) g v hg hv hc0 hG.1.2.2.2.2.1 (fun _ => ⟨rfl, Inv_mk 0 ss T G L O R P C B D S N β mT mG mR mU mP mO mS mN h0⟩) (fun z => absurd (conv.mpr z) q)
  · have q' := conv.mp q
    refine ⟨1, CA 0 ss T (gnG G g v) L O R P C B D S N, BH 73 β, inR_c (by omega), rfl, rfl, stay q' O ?_⟩
    refine ordI_congr hO (fun x => ?_) (fun _ _ _ _ => Iff.rfl) (fun _ _ _ => rfl)
    show ((0 ≤ x ∧ x < mG.2.2.2) ∧ mG.2.1 x = 0 ∧ ¬ lnM mG mU x = -1) ↔ ((0 ≤ x ∧ x < mG.2.2.2) ∧ aUp mG.2.1 g v x = 0 ∧ ¬ lnM mG mU x = -1)
    by_cases e : x = g
    · subst e
      have ql' : lnM mG mU x = -1 := ql
      exact ⟨fun k => absurd ql' k.2.2, fun k => absurd ql' k.2.2⟩
    · rw [aUp_n _ _ e]
  · have q' := conv.mp q
    have ql' : ¬ lnM mG mU g = -1 := ql
    refine ⟨1, CA 0 ss T (gnG G g v) L (insF (ahM mG mU) g O.2.toNat O.1, O.2 + 1) R P C B D S N, BH 73 β, inR_c (by omega), rfl, rfl, stay q' _ ?_⟩
    refine ordI_ins (ahM_sto _ _) hO (fun k => by have := k.2.1; omega) (fun x => ?_)
    show ((0 ≤ x ∧ x < mG.2.2.2) ∧ aUp mG.2.1 g v x = 0 ∧ ¬ lnM mG mU x = -1) ↔ ((0 ≤ x ∧ x < mG.2.2.2) ∧ mG.2.1 x = 0 ∧ ¬ lnM mG mU x = -1) ∨ x = g
    by_cases e : x = g
    · subst e
      rw [aUp_s]
      exact ⟨fun _ => Or.inr rfl, fun _ => ⟨q'.1, z, ql'⟩⟩
    · rw [aUp_n _ _ e]
      exact ⟨Or.inl, fun k => by
        rcases k with k | k
        · exact k
        · exact absurd k e⟩
  · have q' := conv.mp q
    refine ⟨1, CA 0 ss T (gnG G g v) L O R P C B D S N, BH 73 β, inR_c (by omega), rfl, rfl, stay q' O ?_⟩
    refine ordI_congr hO (fun x => ?_) (fun _ _ _ _ => Iff.rfl) (fun _ _ _ => rfl)
    show ((0 ≤ x ∧ x < mG.2.2.2) ∧ mG.2.1 x = 0 ∧ ¬ lnM mG mU x = -1) ↔ ((0 ≤ x ∧ x < mG.2.2.2) ∧ aUp mG.2.1 g v x = 0 ∧ ¬ lnM mG mU x = -1)
    by_cases e : x = g
    · subst e
      rw [aUp_s]
      constructor
      · intro k
        obtain ⟨i, i0, i1, i2⟩ := hO.2.2.2 x k
        exact absurd i2 (ql i i0 i1)
      · intro k
        have := k.2.1
        omega
    · rw [aUp_n _ _ e]
  · have q' := conv.mp q
    refine ⟨1, CA 0 ss T (gnG G g v) L (f, O.2 - 1) R P C B D S N, BH 73 β, inR_c (by omega), rfl, rfl, stay q' _ ?_⟩
    refine ordI_del (ahM_sto _ _) hO ⟨j0, j1⟩ (fun x => ?_) f1 f2
    rw [j2]
    show ((0 ≤ x ∧ x < mG.2.2.2) ∧ aUp mG.2.1 g v x = 0 ∧ ¬ lnM mG mU x = -1) ↔ ((0 ≤ x ∧ x < mG.2.2.2) ∧ mG.2.1 x = 0 ∧ ¬ lnM mG mU x = -1) ∧ x ≠ g
    by_cases e : x = g
    · subst e
      rw [aUp_s]
      exact ⟨fun k => by have := k.2.1; omega, fun k => absurd rfl k.2⟩
    · rw [aUp_n _ _ e]
      exact ⟨fun k => ⟨k, e⟩, fun k => k.1⟩
theorem J_gone1 {X : AX} (ss : Nat) (T : TyT) (G : TyG) (L : TyL) (O : TyO) (R : TyR) (P : TyP) (C : TyC) (B D : TyB) (S N : TyS) (β : List TyBn) (mT : TyT) (mG : TyMG) (mR : TyMR) (mU : TyMU) (mP : TyMP) (mO : TyO) (mS : TyMS) (mN : TyMN) (h : RR 1 ss T G L O R C B D S N β mT mG mR mU mP mS mN) (g v : Int) (hg : inR g) (hv : v = 0 ∨ v = 1) : JS X 0 0 81 107 [iv g, iv v] (CV (CA 1 ss T G L O R P C B D S N) (MV (MA mT mG mR mU mP mO mS mN) (BH 73 β))) (MA mT mG mR mU mP mO mS mN) := by
  have h0 := h
  obtain ⟨hsb, hss, hT, hG, hH, hF, hO, hf, hU, hB, hS, hN, hX⟩ := h
  have hB' : rB D mU := hB
  have hc0 := hG.1.1
  have hcc := hG.2.1.1
  obtain ⟨e1, e2, e3, e4⟩ := rO_eq (mO := mO) hG.1 hO
  obtain ⟨_, _, hstr⟩ := ordM_ok (mG := mG) (mU := mU) (mO := mO) hG.1
  have hO0 := hO.1
  have hgv : ∀ x, 0 ≤ x → x < 32 → G.2.2.2.2.2.2.1 x = mG.2.1 x := hG.2.1.2.2
  have hnew : (0 ≤ g ∧ g < mG.2.2.2) → mG.2.1 g ≠ v → ∀ O' : TyO, ordI (ahM mG mU) (inM (mGg mG g v) mU) O'.1 O'.2 → RR 1 ss T (gnG G g v) L O' R C B D S N β mT (mGg mG g v) mR mU mP mS mN := fun q1 q2 O' hO' => ⟨hsb, hss, hT, gn_rG hG q1 hv q2, hH, hF, hO', hf, hU, hB, hS, hN, hX⟩
  have conv : ((0 ≤ g ∧ g < G.2.2.2.2.2.2.2.2.1) ∧ G.2.2.2.2.2.2.1 g ≠ v) ↔ ((0 ≤ g ∧ g < mG.2.2.2) ∧ mG.2.1 g ≠ v) := by
    rw [hcc]
    constructor
    · rintro ⟨a, b⟩
      exact ⟨a, by rw [← hgv g a.1 (by omega)]; exact b⟩
    · rintro ⟨a, b⟩
      exact ⟨a, by rw [hgv g a.1 (by omega)]; exact b⟩
  have stay : ∀ q : (0 ≤ g ∧ g < mG.2.2.2) ∧ mG.2.1 g ≠ v, ∀ O' : TyO, ordI (ahM mG mU) (inM (mGg mG g v) mU) O'.1 O'.2 → AW X 11 0 0 107 0 (aEntry 107 (rf 49 :: [iv g, iv v])) [] (CV (CA 1 ss T (gnG G g v) L O' R P C B D S N) (MV (MA mT mG mR mU mP mO mS mN) (BH 73 β))) (fun r' h'' => r' = some (iv 1) ∧ Inv h'') := by
    intro q O' hO'
    exact m_gone 7 _ mT mG mR mU mP mO mS mN (BH 73 β) g v hg hv hc0 hG.1.2.2.2.2.1 (fun z => absurd q z) (fun _ => ⟨rfl, Inv_mk 1 ss T (gnG G g v) L O' R P C B D S N β mT (mGg mG g v) mR mU mP mO mS mN (hnew q.1 q.2 O' hO')⟩)
  have h01 := hG.1.2.2.2.2.1 g
  refine c_gone1 6 ss T G L O R P C B D S N (MV (MA mT mG mR mU mP mO mS mN) (BH 73 β)) g v (mGg mG g v) mU hg hv (by omega) (fun i i0 i1 => by rw [hgv i i0 i1]; exact hG.1.2.2.2.2.1 i) hU hB' (by omega) (fun i i0 i1 => inR_c (by have := e4 i i0 i1; omega)) (fun q z => ?_) (fun q => ?_) (fun q z ql => ?_) (fun q z ql => ?_) (fun q z ql => ?_) (fun q z j j0 j1 j2 f f1 f2 => ?_)
  · have q' := conv.mp q
    have hr := gn_rG hG q'.1 hv q'.2
    have hni : ¬ inM mG mU g := fun k => by have := k.2.1; omega
    have := hstr ⟨g, q'.1.1, q'.1.2, hni⟩
    refine ⟨hr.1, hr.2.1, by omega, fun i i0 i1 => ?_⟩
    have h4 := e4 i i0 i1
    exact ⟨by omega, h4.2.2.2⟩
  · refine ⟨0, CA 1 ss T G L O R P C B D S N, BH 73 β, inR_c (by omega), rfl, rfl, ?_⟩
    exact m_gone 7 (CA 1 ss T G L O R P C B D S N) mT mG mR mU mP mO mS mN (BH 73 β) g v hg hv hc0 hG.1.2.2.2.2.1 (fun _ => ⟨rfl, Inv_mk 1 ss T G L O R P C B D S N β mT mG mR mU mP mO mS mN h0⟩) (fun z => absurd (conv.mpr z) q)
  · have q' := conv.mp q
    refine ⟨1, CA 1 ss T (gnG G g v) L O R P C B D S N, BH 73 β, inR_c (by omega), rfl, rfl, stay q' O ?_⟩
    refine ordI_congr hO (fun x => ?_) (fun _ _ _ _ => Iff.rfl) (fun _ _ _ => rfl)
    show ((0 ≤ x ∧ x < mG.2.2.2) ∧ mG.2.1 x = 0 ∧ ¬ lnM mG mU x = -1) ↔ ((0 ≤ x ∧ x < mG.2.2.2) ∧ aUp mG.2.1 g v x = 0 ∧ ¬ lnM mG mU x = -1)
    by_cases e : x = g
    · subst e
      have ql' : lnM mG mU x = -1 := ql
      exact ⟨fun k => absurd ql' k.2.2, fun k => absurd ql' k.2.2⟩
    · rw [aUp_n _ _ e]
  · have q' := conv.mp q
    have ql' : ¬ lnM mG mU g = -1 := ql
    refine ⟨1, CA 1 ss T (gnG G g v) L (insF (ahM mG mU) g O.2.toNat O.1, O.2 + 1) R P C B D S N, BH 73 β, inR_c (by omega), rfl, rfl, stay q' _ ?_⟩
    refine ordI_ins (ahM_sto _ _) hO (fun k => by have := k.2.1; omega) (fun x => ?_)
    show ((0 ≤ x ∧ x < mG.2.2.2) ∧ aUp mG.2.1 g v x = 0 ∧ ¬ lnM mG mU x = -1) ↔ ((0 ≤ x ∧ x < mG.2.2.2) ∧ mG.2.1 x = 0 ∧ ¬ lnM mG mU x = -1) ∨ x = g
    by_cases e : x = g
    · subst e
      rw [aUp_s]
      exact ⟨fun _ => Or.inr rfl, fun _ => ⟨q'.1, z, ql'⟩⟩
    · rw [aUp_n _ _ e]
      exact ⟨Or.inl, fun k => by
        rcases k with k | k
        · exact k
        · exact absurd k e⟩
  · have q' := conv.mp q
    refine ⟨1, CA 1 ss T (gnG G g v) L O R P C B D S N, BH 73 β, inR_c (by omega), rfl, rfl, stay q' O ?_⟩
    refine ordI_congr hO (fun x => ?_) (fun _ _ _ _ => Iff.rfl) (fun _ _ _ => rfl)
    show ((0 ≤ x ∧ x < mG.2.2.2) ∧ mG.2.1 x = 0 ∧ ¬ lnM mG mU x = -1) ↔ ((0 ≤ x ∧ x < mG.2.2.2) ∧ aUp mG.2.1 g v x = 0 ∧ ¬ lnM mG mU x = -1)
    by_cases e : x = g
    · subst e
      rw [aUp_s]
      constructor
      · intro k
        obtain ⟨i, i0, i1, i2⟩ := hO.2.2.2 x k
        exact absurd i2 (ql i i0 i1)
      · intro k
        have := k.2.1
        omega
    · rw [aUp_n _ _ e]
  · have q' := conv.mp q
    refine ⟨1, CA 1 ss T (gnG G g v) L (f, O.2 - 1) R P C B D S N, BH 73 β, inR_c (by omega), rfl, rfl, stay q' _ ?_⟩
    refine ordI_del (ahM_sto _ _) hO ⟨j0, j1⟩ (fun x => ?_) f1 f2
    rw [j2]
    show ((0 ≤ x ∧ x < mG.2.2.2) ∧ aUp mG.2.1 g v x = 0 ∧ ¬ lnM mG mU x = -1) ↔ ((0 ≤ x ∧ x < mG.2.2.2) ∧ mG.2.1 x = 0 ∧ ¬ lnM mG mU x = -1) ∧ x ≠ g
    by_cases e : x = g
    · subst e
      rw [aUp_s]
      exact ⟨fun k => by have := k.2.1; omega, fun k => absurd rfl k.2⟩
    · rw [aUp_n _ _ e]
      exact ⟨fun k => ⟨k, e⟩, fun k => k.1⟩
/-! bars -/
abbrev mGb (mG : TyMG) (x y v : Int) : TyMG := (mG.1, mG.2.1, aUp (aUp mG.2.2.1 (32 * x + y) v) (32 * y + x) v, mG.2.2.2)
abbrev bX (G : TyG) (x y v : Int) : TyG := (G.1, G.2.1, G.2.2.1, G.2.2.2.1, G.2.2.2.2.1, G.2.2.2.2.2.1, G.2.2.2.2.2.2.1, aUp (aUp G.2.2.2.2.2.2.2.1 x (bXor (G.2.2.2.2.2.2.2.1 x) (bShl 1 y))) y (bXor (aUp G.2.2.2.2.2.2.2.1 x (bXor (G.2.2.2.2.2.2.2.1 x) (bShl 1 y)) y) (bShl 1 x)), G.2.2.2.2.2.2.2.2.1, G.2.2.2.2.2.2.2.2.2.1, G.2.2.2.2.2.2.2.2.2.2 + (if v = 0 then -1 else 1))
theorem bar_at {f : FN} {x y v a b : Int} (hx : 0 ≤ x ∧ x < 32) (hy : 0 ≤ y ∧ y < 32) (hb : 0 ≤ b ∧ b < 32) : aUp (aUp f (32 * x + y) v) (32 * y + x) v (32 * a + b) = cif ((a = x ∧ b = y) ∨ (a = y ∧ b = x)) v (f (32 * a + b)) := by
  by_cases c : 32 * a + b = 32 * y + x
  · rw [c, aUp_s, cif_t (Or.inr ⟨by omega, by omega⟩)]
  · rw [aUp_n _ _ c]
    by_cases c2 : 32 * a + b = 32 * x + y
    · rw [c2, aUp_s, cif_t (Or.inl ⟨by omega, by omega⟩)]
    · rw [aUp_n _ _ c2, cif_f (by omega)]
theorem bar_rG {G : TyG} {mG : TyMG} {x y v : Int} (h : rG G mG) (hx : 0 ≤ x ∧ x < mG.2.2.2) (hy : 0 ≤ y ∧ y < mG.2.2.2) (hxy : x ≠ y) (hv : v = 0 ∨ v = 1) (hne : mG.2.2.1 (32 * x + y) ≠ v) : rG (bX G x y v) (mGb mG x y v) := by
  obtain ⟨h1, h2, h3, h4, h5, h6, h7, h8⟩ := h
  obtain ⟨g1, g2, g3, g4, g5, g6⟩ := h1
  have o1 := g6 (32 * x + y)
  have o2 := h7 x y hx.1 (by omega) hy.1 (by omega)
  refine ⟨⟨g1, g2, g3, g4, g5, ?_⟩, h2, fun a b a0 a1 b0 b1 => ?_, h4, ?_, h6, fun a b a0 a1 b0 b1 => ?_, fun a b a0 a1 b0 b1 => ?_⟩
  · exact aUp_P (P := fun z => z = 0 ∨ z = 1) (aUp_P (P := fun z => z = 0 ∨ z = 1) g6 hv) hv
  · show bitI (aUp (aUp G.2.2.2.2.2.2.2.1 x (bXor (G.2.2.2.2.2.2.2.1 x) (bShl 1 y))) y (bXor (aUp G.2.2.2.2.2.2.2.1 x (bXor (G.2.2.2.2.2.2.2.1 x) (bShl 1 y)) y) (bShl 1 x)) a) b = aUp (aUp mG.2.2.1 (32 * x + y) v) (32 * y + x) v (32 * a + b)
    rw [bar_at (by omega) (by omega) ⟨b0, b1⟩, aUp_n (i := x) (k := y) _ _ (fun k => hxy k.symm)]
    by_cases ay : a = y
    · subst ay
      rw [aUp_s, bitI_xor (by omega) ⟨b0, b1⟩]
      by_cases bx : b = x
      · subst bx
        rw [if_pos rfl, cif_t (Or.inr ⟨rfl, rfl⟩), h3 _ _ a0 a1 b0 b1, ← o2]
        omega
      · rw [if_neg bx, cif_f (by omega)]
        exact h3 _ _ a0 a1 b0 b1
    · rw [aUp_n _ _ ay]
      by_cases ax : a = x
      · subst ax
        rw [aUp_s, bitI_xor (by omega) ⟨b0, b1⟩]
        by_cases bx : b = y
        · subst bx
          rw [if_pos rfl, cif_t (Or.inl ⟨rfl, rfl⟩), h3 _ _ a0 a1 b0 b1]
          omega
        · rw [if_neg bx, cif_f (by omega)]
          exact h3 _ _ a0 a1 b0 b1
      · rw [aUp_n _ _ ax, cif_f (by omega)]
        exact h3 _ _ a0 a1 b0 b1
  · show G.2.2.2.2.2.2.2.2.2.2 + (if v = 0 then -1 else 1) = smN (bsM (mGb mG x y v)) mG.2.2.2.toNat
    have key : ∀ a, 0 ≤ a → a < ((mG.2.2.2.toNat : Nat) : Int) → bsM (mGb mG x y v) a = bsM mG a + cif (a = max x y) (v - mG.2.2.1 (32 * x + y)) 0 := by
      intro a a0 a1
      have e1 := smN_one (a := min x y) (v := cif (a = max x y) (v - mG.2.2.1 (32 * x + y)) 0) (by omega) a.toNat
      have e2 := smN_add (e := fun b => mG.2.2.1 (32 * a + b)) (e' := fun b => cif (b = min x y) (cif (a = max x y) (v - mG.2.2.1 (32 * x + y)) 0) 0) (e'' := fun b => (mGb mG x y v).2.2.1 (32 * a + b)) a.toNat (fun b b0 b1 => by
        show aUp (aUp mG.2.2.1 (32 * x + y) v) (32 * y + x) v (32 * a + b) = _
        rw [bar_at (by omega) (by omega) ⟨b0, by omega⟩]
        by_cases c : (a = x ∧ b = y) ∨ (a = y ∧ b = x)
        · rw [cif_t c, cif_t (show b = min x y from by omega), cif_t (show a = max x y from by omega)]
          rcases c with ⟨c1, c2⟩ | ⟨c1, c2⟩
          · rw [c1, c2]; omega
          · rw [c1, c2, ← o2]; omega
        · rw [cif_f c]
          by_cases c2 : b = min x y
          · rw [cif_t c2, cif_f (by omega)]; omega
          · rw [cif_f c2]; omega)
      unfold bsM
      rw [e2, e1]
      by_cases c : a = max x y
      · rw [cif_t c, cif_t (by omega)]
      · rw [cif_f c]
        by_cases c2 : min x y < ((a.toNat : Nat) : Int)
        · rw [cif_t c2]
        · rw [cif_f c2]
    have e3 := smN_one (a := max x y) (v := v - mG.2.2.1 (32 * x + y)) (by omega) mG.2.2.2.toNat
    rw [cif_t (show max x y < ((mG.2.2.2.toNat : Nat) : Int) from by omega)] at e3
    rw [smN_add (e := bsM mG) (e' := fun a => cif (a = max x y) (v - mG.2.2.1 (32 * x + y)) 0) (e'' := bsM (mGb mG x y v)) _ key, e3, h5]
    rcases hv with rfl | rfl
    · rw [if_pos rfl]; omega
    · rw [if_neg (by omega)]; omega
  · show aUp (aUp mG.2.2.1 (32 * x + y) v) (32 * y + x) v (32 * a + b) = aUp (aUp mG.2.2.1 (32 * x + y) v) (32 * y + x) v (32 * b + a)
    rw [bar_at (by omega) (by omega) ⟨b0, b1⟩, bar_at (by omega) (by omega) ⟨a0, a1⟩]
    by_cases c : (a = x ∧ b = y) ∨ (a = y ∧ b = x)
    · rw [cif_t c, cif_t (by omega)]
    · rw [cif_f c, cif_f (by omega)]
      exact h7 a b a0 a1 b0 b1
  · show aUp (aUp mG.2.2.1 (32 * x + y) v) (32 * y + x) v (32 * a + b) = 0
    have a0' : mG.2.2.2 ≤ a := a0
    rw [bar_at (by omega) (by omega) ⟨b0, b1⟩, cif_f (by omega)]
    exact h8 a b a0 a1 b0 b1
theorem J_bar {X : AX} (sb ss : Nat) (T : TyT) (G : TyG) (L : TyL) (O : TyO) (R : TyR) (P : TyP) (C : TyC) (B D : TyB) (S N : TyS) (β : List TyBn) (mT : TyT) (mG : TyMG) (mR : TyMR) (mU : TyMU) (mP : TyMP) (mO : TyO) (mS : TyMS) (mN : TyMN) (h : RR sb ss T G L O R C B D S N β mT mG mR mU mP mS mN) (x y v : Int) (hx : inR x) (hy : inR y) (hv : v = 0 ∨ v = 1) : JS X 0 0 82 108 [iv x, iv y, iv v] (CV (CA sb ss T G L O R P C B D S N) (MV (MA mT mG mR mU mP mO mS mN) (BH 73 β))) (MA mT mG mR mU mP mO mS mN) := by
  have h0 := h
  obtain ⟨hsb, hss, hT, hG, hH, hF, hO, hf, hU, hB, hS, hN, hX⟩ := h
  have hc0 := hG.1.1
  have hcc := hG.2.1.1
  have conv : ((0 ≤ x ∧ x < G.2.2.2.2.2.2.2.2.1) ∧ (0 ≤ y ∧ y < G.2.2.2.2.2.2.2.2.1) ∧ x ≠ y ∧ bitI (G.2.2.2.2.2.2.2.1 x) y ≠ v) ↔ ((0 ≤ x ∧ x < mG.2.2.2) ∧ (0 ≤ y ∧ y < mG.2.2.2) ∧ x ≠ y ∧ mG.2.2.1 (32 * x + y) ≠ v) := by
    rw [hcc]
    constructor
    · rintro ⟨a, b, c, e⟩
      exact ⟨a, b, c, by rw [← hG.2.2.1 x y a.1 (by omega) b.1 (by omega)]; exact e⟩
    · rintro ⟨a, b, c, e⟩
      exact ⟨a, b, c, by rw [hG.2.2.1 x y a.1 (by omega) b.1 (by omega)]; exact e⟩
  refine c_bar 7 sb ss T G L O R P C B D S N (MV (MA mT mG mR mU mP mO mS mN) (BH 73 β)) x y v hx hy hv (by omega) (fun q => ?_) (fun q => ?_)
  · refine ⟨0, (CA sb ss T G L O R P C B D S N), BH 73 β, inR_c (by omega), rfl, rfl, ?_⟩
    exact m_bar 7 (CA sb ss T G L O R P C B D S N) mT mG mR mU mP mO mS mN (BH 73 β) x y v hx hy hv hc0 hG.1.2.2.2.2.2 (fun _ => ⟨rfl, Inv_mk sb ss T G L O R P C B D S N β mT mG mR mU mP mO mS mN h0⟩) (fun z => absurd (conv.mpr z) q)
  · have q' := conv.mp q
    refine ⟨1, CA sb ss T (bX G x y v) L O R P C B D S N, BH 73 β, inR_c (by omega), rfl, rfl, ?_⟩
    exact m_bar 7 _ mT mG mR mU mP mO mS mN (BH 73 β) x y v hx hy hv hc0 hG.1.2.2.2.2.2 (fun z => absurd q' z) (fun _ => ⟨rfl, Inv_mk sb ss T (bX G x y v) L O R P C B D S N β mT (mGb mG x y v) mR mU mP mO mS mN ⟨hsb, hss, hT, bar_rG hG q'.1 q'.2.1 q'.2.2.1 hv q'.2.2.2, hH, hF, hO, hf, hU, hB, hS, hN, hX⟩⟩)

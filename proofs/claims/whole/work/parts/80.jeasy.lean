theorem Inv_mk (sb ss : Nat) (T : TyT) (G : TyG) (L : TyL) (O : TyO) (R : TyR) (P : TyP) (C : TyC) (B D : TyB) (S N : TyS) (β : List TyBn) (mT : TyT) (mG : TyMG) (mR : TyMR) (mU : TyMU) (mP : TyMP) (mO : TyO) (mS : TyMS) (mN : TyMN) (h : RR sb ss T G L O R C B D S N β mT mG mR mU mP mS mN) : Inv (CV (CA sb ss T G L O R P C B D S N) (MV (MA mT mG mR mU mP mO mS mN) (BH 73 β))) := ⟨sb, ss, T, G, L, O, R, P, C, B, D, S, N, β, mT, mG, mR, mU, mP, mO, mS, mN, rfl, h⟩
theorem aUp_and {f g : FN} {i a b : Int} (hf : ∀ k, bAnd (f k) 255 = g k) (h : bAnd a 255 = b) : ∀ k, bAnd (aUp f i a k) 255 = aUp g i b k := by
  intro k
  by_cases e : k = i
  · rw [e, aUp_s, aUp_s]; exact h
  · rw [aUp_n _ _ e, aUp_n _ _ e]; exact hf k
theorem aUp_255 {g : FN} {i b : Int} (hg : ∀ k, 0 ≤ g k ∧ g k ≤ 255) (h : 0 ≤ b ∧ b ≤ 255) : ∀ k, 0 ≤ aUp g i b k ∧ aUp g i b k ≤ 255 := by
  intro k
  by_cases e : k = i
  · rw [e, aUp_s]; exact h
  · rw [aUp_n _ _ e]; exact hg k
def rTa (T mT : TyT) : Prop := T.2 = mT.2 ∧ (∀ i, bAnd (T.1 i) 255 = mT.1 i) ∧ (∀ i, 0 ≤ mT.1 i ∧ mT.1 i ≤ 255)
theorem rTa_put {T mT : TyT} (h : rTa T mT) (v : Int) : rTa (tpC v T) (tpM v mT) := by
  obtain ⟨h1, h2, h3⟩ := h
  unfold rTa tpC tpM
  dsimp only
  rw [h1]
  refine ⟨rfl, ?_, ?_⟩
  · exact aUp_and (aUp_and (aUp_and (aUp_and h2 (byte_eq v 24 (by omega))) (byte_eq v 16 (by omega))) (byte_eq v 8 (by omega))) (byte_eq v 0 (by omega))
  · exact aUp_255 (aUp_255 (aUp_255 (aUp_255 h3 (and255_r _)) (and255_r _)) (and255_r _)) (and255_r _)
theorem J_feed {X : AX} (sb ss : Nat) (T : TyT) (G : TyG) (L : TyL) (O : TyO) (R : TyR) (P : TyP) (C : TyC) (B D : TyB) (S N : TyS) (β : List TyBn) (mT : TyT) (mG : TyMG) (mR : TyMR) (mU : TyMU) (mP : TyMP) (mO : TyO) (mS : TyMS) (mN : TyMN) (h : RR sb ss T G L O R C B D S N β mT mG mR mU mP mS mN) (v1 v2 v3 v4 v5 : Int) : JS X 0 0 78 103 [iv v1, iv v2, iv v3, iv v4, iv v5] (CV (CA sb ss T G L O R P C B D S N) (MV (MA mT mG mR mU mP mO mS mN) (BH 73 β))) (MA mT mG mR mU mP mO mS mN) := by
  obtain ⟨hsb, hss, hT, hG, hH, hF, hO, hf, hU, hB, hS, hN, hX⟩ := h
  obtain ⟨t1, t2, t3, t4⟩ := hT
  refine c_feed 7 sb ss T G L O R P C B D S N (MV (MA mT mG mR mU mP mO mS mN) (BH 73 β)) v1 v2 v3 v4 v5 t2 (fun q => ?_) (fun q => ?_)
  · refine ⟨-1, (CA sb ss T G L O R P C B D S N), BH 73 β, inR_c (by omega), rfl, rfl, ?_⟩
    refine m_feed 8 (CA sb ss T G L O R P C B D S N) mT mG mR mU mP mO mS mN (BH 73 β) v1 v2 v3 v4 v5 (by omega) (fun k => ⟨rfl, Inv_mk sb ss T G L O R P C B D S N β mT mG mR mU mP mO mS mN ⟨hsb, hss, ⟨t1, t2, t3, t4⟩, hG, hH, hF, hO, hf, hU, hB, hS, hN, hX⟩⟩) (fun k => by omega)
  · have e5 := rTa_put (rTa_put (rTa_put (rTa_put (rTa_put ⟨t1, t3, t4⟩ v1) v2) v3) v4) v5
    have el : (tpC v5 (tpC v4 (tpC v3 (tpC v2 (tpC v1 T))))).2 = T.2 + 20 := by dsimp only [tpC]; omega
    refine ⟨T.2 + 20, (CA sb ss (tpC v5 (tpC v4 (tpC v3 (tpC v2 (tpC v1 T))))) G L O R P C B D S N), BH 73 β, inR_c (by omega), rfl, rfl, ?_⟩
    refine m_feed 8 (CA sb ss (tpC v5 (tpC v4 (tpC v3 (tpC v2 (tpC v1 T))))) G L O R P C B D S N) mT mG mR mU mP mO mS mN (BH 73 β) v1 v2 v3 v4 v5 (by omega) (fun k => by omega) (fun k => ⟨by rw [t1], Inv_mk sb ss _ G L O R P C B D S N β _ mG mR mU mP mO mS mN ⟨hsb, hss, ⟨e5.1, by rw [el]; omega, e5.2.1, e5.2.2⟩, hG, hH, hF, hO, hf, hU, hB, hS, hN, hX⟩⟩)
theorem J_end {X : AX} (sb ss : Nat) (T : TyT) (G : TyG) (L : TyL) (O : TyO) (R : TyR) (P : TyP) (C : TyC) (B D : TyB) (S N : TyS) (β : List TyBn) (mT : TyT) (mG : TyMG) (mR : TyMR) (mU : TyMU) (mP : TyMP) (mO : TyO) (mS : TyMS) (mN : TyMN) (h : RR sb ss T G L O R C B D S N β mT mG mR mU mP mS mN) (n : Int) (hn : inR n) : JS X 0 0 79 104 [iv n] (CV (CA sb ss T G L O R P C B D S N) (MV (MA mT mG mR mU mP mO mS mN) (BH 73 β))) (MA mT mG mR mU mP mO mS mN) := by
  obtain ⟨hsb, hss, hT, hG, hH, hF, hO, hf, hU, hB, hS, hN, hX⟩ := h
  obtain ⟨t1, t2, t3, t4⟩ := hT
  refine c_end 8 sb ss T G L O R P C B D S N (MV (MA mT mG mR mU mP mO mS mN) (BH 73 β)) n hn t2 (fun q => ?_) (fun q => ?_)
  · refine ⟨0, (CA sb ss T G L O R P C B D S N), BH 73 β, inR_c (by omega), rfl, rfl, ?_⟩
    refine m_end 9 (CA sb ss T G L O R P C B D S N) mT mG mR mU mP mO mS mN (BH 73 β) n hn (by omega) (fun k => ⟨rfl, Inv_mk sb ss T G L O R P C B D S N β mT mG mR mU mP mO mS mN ⟨hsb, hss, ⟨t1, t2, t3, t4⟩, hG, hH, hF, hO, hf, hU, hB, hS, hN, hX⟩⟩) (fun k => by omega)
  · refine ⟨1, (CA sb ss (T.1, n) G L O R P C B D S N), BH 73 β, inR_c (by omega), rfl, rfl, ?_⟩
    refine m_end 9 (CA sb ss (T.1, n) G L O R P C B D S N) mT mG mR mU mP mO mS mN (BH 73 β) n hn (by omega) (fun k => by omega) (fun k => ⟨rfl, Inv_mk sb ss (T.1, n) G L O R P C B D S N β (mT.1, n) mG mR mU mP mO mS mN ⟨hsb, hss, ⟨rfl, ⟨q.1, by dsimp only; omega⟩, t3, t4⟩, hG, hH, hF, hO, hf, hU, hB, hS, hN, hX⟩⟩)
theorem J_set {X : AX} (sb ss : Nat) (T : TyT) (G : TyG) (L : TyL) (O : TyO) (R : TyR) (P : TyP) (C : TyC) (B D : TyB) (S N : TyS) (β : List TyBn) (mT : TyT) (mG : TyMG) (mR : TyMR) (mU : TyMU) (mP : TyMP) (mO : TyO) (mS : TyMS) (mN : TyMN) (h : RR sb ss T G L O R C B D S N β mT mG mR mU mP mS mN) (s f e : Int) (hs : inR s) (hff : inR f) (he : inR e) : JS X 0 0 84 110 [iv s, iv f, iv e] (CV (CA sb ss T G L O R P C B D S N) (MV (MA mT mG mR mU mP mO mS mN) (BH 73 β))) (MA mT mG mR mU mP mO mS mN) := by
  have h0 := h
  obtain ⟨hsb, hss, hT, hG, hH, hF, hO, hf, hU, hB, hS, hN, hX⟩ := h
  refine c_set 8 sb ss T G L O R P C B D S N (MV (MA mT mG mR mU mP mO mS mN) (BH 73 β)) s f e hs hff he (fun q => ?_) (fun q => ?_)
  · refine ⟨0, (CA sb ss T G L O R P C B D S N), BH 73 β, inR_c (by omega), rfl, rfl, ?_⟩
    refine m_set 9 (CA sb ss T G L O R P C B D S N) mT mG mR mU mP mO mS mN (BH 73 β) s f e hs hff he (fun k => ⟨rfl, Inv_mk sb ss T G L O R P C B D S N β mT mG mR mU mP mO mS mN h0⟩) (fun k => absurd k q)
  · refine ⟨1, (CA sb ss T G (L.1, L.2.1, s, f, e) O R P C B D S N), BH 73 β, inR_c (by omega), rfl, rfl, ?_⟩
    refine m_set 9 (CA sb ss T G (L.1, L.2.1, s, f, e) O R P C B D S N) mT mG mR mU mP mO mS mN (BH 73 β) s f e hs hff he (fun k => absurd q k) (fun k => ⟨rfl, Inv_mk sb ss T G (L.1, L.2.1, s, f, e) O R P C B D S N β mT mG (mR.1, mR.2.1, mR.2.2.1, mR.2.2.2.1, s, f, e) mU mP mO mS mN ⟨hsb, hss, hT, hG, ?_, hF, hO, hf, hU, hB, hS, hN, hX⟩⟩)
    obtain ⟨b1, b2, b3, b4, b5, b6, b7, r1, r2, r3, r4, r5, r6⟩ := hH
    exact ⟨b1, b2, b3, b4, rfl, rfl, rfl, r1, r2, r3, q.1, q.2.1, q.2.2⟩
theorem J_fault {X : AX} (sb ss : Nat) (T : TyT) (G : TyG) (L : TyL) (O : TyO) (R : TyR) (P : TyP) (C : TyC) (B D : TyB) (S N : TyS) (β : List TyBn) (mT : TyT) (mG : TyMG) (mR : TyMR) (mU : TyMU) (mP : TyMP) (mO : TyO) (mS : TyMS) (mN : TyMN) (h : RR sb ss T G L O R C B D S N β mT mG mR mU mP mS mN) (w : Int) (hw : inR w) : JS X 0 0 86 121 [iv w] (CV (CA sb ss T G L O R P C B D S N) (MV (MA mT mG mR mU mP mO mS mN) (BH 73 β))) (MA mT mG mR mU mP mO mS mN) := by
  have h0 := h
  obtain ⟨hsb, hss, hT, hG, hH, hF, hO, hf, hU, hB, hS, hN, hX⟩ := h
  obtain ⟨f1, f2, f3, f4, f5⟩ := hf
  refine aw_post (c_fault 9 sb ss T G L O R P C B D S N (MV (MA mT mG mR mU mP mO mS mN) (BH 73 β)) w hw) (fun r h' e => ?_)
  obtain ⟨rfl, rfl⟩ := e
  refine ⟨_, (CA sb ss T G L O R P C B D S N), BH 73 β, ?_, rfl, rfl, ?_⟩
  · by_cases c : w = 0
    · rw [if_pos c]; exact inR_c (by omega)
    · rw [if_neg c]
      by_cases c2 : w = 1
      · rw [if_pos c2]; exact inR_c (by omega)
      · rw [if_neg c2]; exact inR_c (by omega)
  · refine aw_post (m_fault 9 (CA sb ss T G L O R P C B D S N) mT mG mR mU mP mO mS mN (BH 73 β) w hw) (fun r h' e => ?_)
    obtain ⟨rfl, rfl⟩ := e
    exact ⟨by rw [f1, f2], Inv_mk sb ss T G L O R P C B D S N β mT mG mR mU mP mO mS mN h0⟩
theorem J_rank {X : AX} (sb ss : Nat) (T : TyT) (G : TyG) (L : TyL) (O : TyO) (R : TyR) (P : TyP) (C : TyC) (B D : TyB) (S N : TyS) (β : List TyBn) (mT : TyT) (mG : TyMG) (mR : TyMR) (mU : TyMU) (mP : TyMP) (mO : TyO) (mS : TyMS) (mN : TyMN) (h : RR sb ss T G L O R C B D S N β mT mG mR mU mP mS mN) (g : Int) (hg : inR g) : JS X 0 0 87 125 [iv g] (CV (CA sb ss T G L O R P C B D S N) (MV (MA mT mG mR mU mP mO mS mN) (BH 73 β))) (MA mT mG mR mU mP mO mS mN) := by
  have h0 := h
  obtain ⟨hsb, hss, hT, hG, hH, hF, hO, hf, hU, hB, hS, hN, hX⟩ := h
  obtain ⟨e1, e2, e3, e4⟩ := rO_eq (mO := mO) hG.1 hO
  have hg0 := hG.1.1
  have hr := hO.1
  refine c_rank 8 sb ss T G L O R P C B D S N (MV (MA mT mG mR mU mP mO mS mN) (BH 73 β)) g hg (by omega) (fun i i0 i1 => inR_c (by have := (e4 i i0 i1).1; omega)) (fun q => ?_) (fun k k0 k1 k2 => ?_)
  · refine ⟨-1, (CA sb ss T G L O R P C B D S N), BH 73 β, inR_c (by omega), rfl, rfl, ?_⟩
    refine m_rank 6 (CA sb ss T G L O R P C B D S N) mT mG mR mU mP mO mS mN (BH 73 β) g hg hG.1 hU (fun _ => ⟨rfl, Inv_mk sb ss T G L O R P C B D S N β mT mG mR mU mP mO mS mN h0⟩) (fun hi => ?_)
    obtain ⟨i, i0, i1, i2⟩ := hO.2.2.2 g hi
    exact absurd i2 (q i i0 i1)
  · refine ⟨k, (CA sb ss T G L O R P C B D S N), BH 73 β, inR_c (by omega), rfl, rfl, ?_⟩
    refine m_rank 6 (CA sb ss T G L O R P C B D S N) mT mG mR mU mP mO mS mN (BH 73 β) g hg hG.1 hU (fun hi => ?_) (fun hi j j0 j1 j2 => ?_)
    · exact absurd (by rw [← k2]; exact (e4 k k0 k1).2) hi
    · have ej := e2 j j0 (by omega)
      have e : j = k := by
        rcases Int.lt_trichotomy j k with z | z | z
        · exfalso
          have := hO.2.1 j k j0 z k1
          rw [ej, j2, k2] at this
          exact (ahM_sto mG mU).1 g this
        · exact z
        · exfalso
          have := hO.2.1 k j k0 z (by omega)
          rw [ej, j2, k2] at this
          exact (ahM_sto mG mU).1 g this
      exact ⟨by rw [e], Inv_mk sb ss T G L O R P C B D S N β mT mG mR mU mP (ordM mG mU mO) mS mN h0⟩
theorem J_ranked {X : AX} (sb ss : Nat) (T : TyT) (G : TyG) (L : TyL) (O : TyO) (R : TyR) (P : TyP) (C : TyC) (B D : TyB) (S N : TyS) (β : List TyBn) (mT : TyT) (mG : TyMG) (mR : TyMR) (mU : TyMU) (mP : TyMP) (mO : TyO) (mS : TyMS) (mN : TyMN) (h : RR sb ss T G L O R C B D S N β mT mG mR mU mP mS mN) (i : Int) (hi : inR i) : JS X 0 0 88 126 [iv i] (CV (CA sb ss T G L O R P C B D S N) (MV (MA mT mG mR mU mP mO mS mN) (BH 73 β))) (MA mT mG mR mU mP mO mS mN) := by
  have h0 := h
  obtain ⟨hsb, hss, hT, hG, hH, hF, hO, hf, hU, hB, hS, hN, hX⟩ := h
  obtain ⟨e1, e2, e3, e4⟩ := rO_eq (mO := mO) hG.1 hO
  have hg0 := hG.1.1
  have hr := hO.1
  refine aw_post (c_ranked 8 sb ss T G L O R P C B D S N (MV (MA mT mG mR mU mP mO mS mN) (BH 73 β)) i hi (by omega)) (fun r h' e => ?_)
  obtain ⟨rfl, rfl⟩ := e
  refine ⟨_, (CA sb ss T G L O R P C B D S N), BH 73 β, ?_, rfl, rfl, ?_⟩
  · by_cases c : 0 ≤ i ∧ i < O.2
    · rw [if_pos c]
      have := (e4 i c.1 c.2).1
      exact inR_c (by omega)
    · rw [if_neg c]; exact inR_c (by omega)
  · refine aw_post (m_ranked 6 (CA sb ss T G L O R P C B D S N) mT mG mR mU mP mO mS mN (BH 73 β) i hi hG.1 hU) (fun r h' e => ?_)
    obtain ⟨rfl, rfl⟩ := e
    refine ⟨?_, Inv_mk sb ss T G L O R P C B D S N β mT mG mR mU mP (ordM mG mU mO) mS mN h0⟩
    rw [← e1]
    by_cases c : 0 ≤ i ∧ i < O.2
    · rw [if_pos c, if_pos c, e2 i c.1 c.2]
    · rw [if_neg c, if_neg c]
theorem J_moved0 {X : AX} (sb : Nat) (T : TyT) (G : TyG) (L : TyL) (O : TyO) (R : TyR) (P : TyP) (C : TyC) (B D : TyB) (S N : TyS) (β : List TyBn) (mT : TyT) (mG : TyMG) (mR : TyMR) (mU : TyMU) (mP : TyMP) (mO : TyO) (mS : TyMS) (mN : TyMN) (h : RR sb 0 T G L O R C B D S N β mT mG mR mU mP mS mN) : JS X 0 0 90 133 [] (CV (CA sb 0 T G L O R P C B D S N) (MV (MA mT mG mR mU mP mO mS mN) (BH 73 β))) (MA mT mG mR mU mP mO mS mN) := by
  have h0 := h
  obtain ⟨hsb, hss, hT, hG, hH, hF, hO, hf, hU, hB, hS, hN, hX⟩ := h
  have hS' : rS S mS mG mR.2.2.2.1 := hS
  obtain ⟨s1, s2, s3, s4, s5, s6, s7, s8, s9⟩ := hS'
  have s10 := s1.2.2.1
  refine aw_post (c_moved0 9 T G L O R P C B D S N sb (MV (MA mT mG mR mU mP mO mS mN) (BH 73 β)) (by rw [s2]; exact s10)) (fun r h' e => ?_)
  obtain ⟨rfl, rfl⟩ := e
  refine ⟨_, CA sb 0 T G L O R P C B D S N, BH 73 β, ?_, rfl, rfl, ?_⟩
  · by_cases c : S.2.2.2.2.2.2 = 0
    · rw [if_pos c]; exact inR_c (by omega)
    · rw [if_neg c]; exact inR_c (by omega)
  · refine aw_post (m_moved 9 (CA sb 0 T G L O R P C B D S N) mT mG mR mU mP mO mS mN (BH 73 β) s10) (fun r h' e => ?_)
    obtain ⟨rfl, rfl⟩ := e
    exact ⟨by rw [s2, s4.1], Inv_mk sb 0 T G L O R P C B D S N β mT mG mR mU mP mO mS mN h0⟩
theorem J_sits0 {X : AX} (sb : Nat) (T : TyT) (G : TyG) (L : TyL) (O : TyO) (R : TyR) (P : TyP) (C : TyC) (B D : TyB) (S N : TyS) (β : List TyBn) (mT : TyT) (mG : TyMG) (mR : TyMR) (mU : TyMU) (mP : TyMP) (mO : TyO) (mS : TyMS) (mN : TyMN) (h : RR sb 0 T G L O R C B D S N β mT mG mR mU mP mS mN) (g w : Int) (hg : inR g) (hw : inR w) : JS X 0 0 91 135 [iv g, iv w] (CV (CA sb 0 T G L O R P C B D S N) (MV (MA mT mG mR mU mP mO mS mN) (BH 73 β))) (MA mT mG mR mU mP mO mS mN) := by
  have h0 := h
  obtain ⟨hsb, hss, hT, hG, hH, hF, hO, hf, hU, hB, hS, hN, hX⟩ := h
  have hS' : rS S mS mG mR.2.2.2.1 := hS
  obtain ⟨k1, k2, k3⟩ := rS_k hS' hH.2.2.2.2.2.2.2.1
  obtain ⟨s1, s2, s3, s4, s5, s6, s7, s8, s9⟩ := hS'
  have hgt := s1.2.2.2
  have hgr : inR (S.1 g) := by
    by_cases c : 0 ≤ g ∧ g < 32
    · have := k1.2.2 g c.1 c.2
      exact inR_c (by omega)
    · have := hX g c
      exact inR_c (by omega)
  refine c_sits0 6 sb T G L O R P C B D S N (MV (MA mT mG mR mU mP mO mS mN) (BH 73 β)) g w hg hw hgr (fun q => ?_) (fun q => ?_)
  · refine ⟨-2, CA sb 0 T G L O R P C B D S N, BH 73 β, inR_c (by omega), rfl, rfl, ?_⟩
    refine m_sits 9 (CA sb 0 T G L O R P C B D S N) mT mG mR mU mP mO mS mN (BH 73 β) g w hg hw s1 hG.1 (fun _ => ⟨rfl, Inv_mk sb 0 T G L O R P C B D S N β mT mG mR mU mP mO mS mN h0⟩) (fun k => ?_)
    exfalso
    have kr := k.2.1
    have hr := s1.1 g
    rcases (s6 g kr.1 (by omega)).2 with ⟨a, b, c⟩ | ⟨a, b, c, e⟩ | ⟨a, b⟩
    · exact q ⟨⟨by omega, by omega⟩, k.2.2.2⟩
    · exact q ⟨⟨by omega, by omega⟩, k.2.2.2⟩
    · exact a ⟨k.1, k.2.1.2, k.2.2.1⟩
  · have g0 : 0 ≤ g := q.1.1.1
    have g1 : g < 32 := by have := q.1.1.2; omega
    have hgv := hG.2.1.2.1 g g0 g1
    have hw6 := hG.1.2.2.1 g g0 g1
    have hw7 := hG.1.2.1 (6 * g + 4)
    have hkg := k1.2.2 g g0 g1
    have hp := s1.2.1 g
    have hr := s1.1 g
    refine ⟨_, CA sb 0 T G L O R P C B D S N, BH 73 β, ?_, rfl, rfl, ?_⟩
    · refine cif_ind (P := inR) (fun _ => inR_c (by omega)) (fun _ => cif_ind (P := inR) (fun _ => inR_c (by omega)) (fun _ => inR_c (by omega)))
    · refine m_sits 9 (CA sb 0 T G L O R P C B D S N) mT mG mR mU mP mO mS mN (BH 73 β) g w hg hw s1 hG.1 (fun k => ?_) (fun k => ?_)
      · exfalso
        rcases (s6 g g0 g1).2 with ⟨a, b, c⟩ | ⟨a, b, c, e⟩ | ⟨a, b⟩
        · exact k ⟨a.1, ⟨g0, a.2.2.1⟩, by have := a.2.2.2; omega, q.2⟩
        · exact k ⟨a, ⟨g0, b⟩, by omega, q.2⟩
        · exact q.1.2 b
      · refine ⟨?_, Inv_mk sb 0 T G L O R P C B D S N β mT mG mR mU mP mO mS mN h0⟩
        rcases (s6 g g0 g1).2 with ⟨a, b, c⟩ | ⟨a, b, c, e⟩ | ⟨a, b⟩
        · have ha := a.2.2.2
          rw [cif_f (show ¬ mS.1 g = 6 from by omega)]
          by_cases w0 : w = 0
          · rw [cif_t w0, cif_t (Or.inl w0), b]
          · rw [cif_f w0, cif_f (show ¬ (w = 0 ∨ S.1 g = -1) from by omega)]
            by_cases w1 : w = 1
            · rw [cif_t w1, cif_t w1, c]
            · rw [cif_f w1, cif_f w1, c, hgv.2.2.2.2.1]
        · rw [cif_t c, cif_t (Or.inr e), e]
        · exact absurd b q.1.2
theorem J_moved1 {X : AX} (sb : Nat) (T : TyT) (G : TyG) (L : TyL) (O : TyO) (R : TyR) (P : TyP) (C : TyC) (B D : TyB) (S N : TyS) (β : List TyBn) (mT : TyT) (mG : TyMG) (mR : TyMR) (mU : TyMU) (mP : TyMP) (mO : TyO) (mS : TyMS) (mN : TyMN) (h : RR sb 1 T G L O R C B D S N β mT mG mR mU mP mS mN) : JS X 0 0 90 133 [] (CV (CA sb 1 T G L O R P C B D S N) (MV (MA mT mG mR mU mP mO mS mN) (BH 73 β))) (MA mT mG mR mU mP mO mS mN) := by
  have h0 := h
  obtain ⟨hsb, hss, hT, hG, hH, hF, hO, hf, hU, hB, hS, hN, hX⟩ := h
  have hS' : rS N mS mG mR.2.2.2.1 := hS
  obtain ⟨s1, s2, s3, s4, s5, s6, s7, s8, s9⟩ := hS'
  have s10 := s1.2.2.1
  refine aw_post (c_moved1 9 T G L O R P C B D S N sb (MV (MA mT mG mR mU mP mO mS mN) (BH 73 β)) (by rw [s2]; exact s10)) (fun r h' e => ?_)
  obtain ⟨rfl, rfl⟩ := e
  refine ⟨_, CA sb 1 T G L O R P C B D S N, BH 73 β, ?_, rfl, rfl, ?_⟩
  · by_cases c : N.2.2.2.2.2.2 = 0
    · rw [if_pos c]; exact inR_c (by omega)
    · rw [if_neg c]; exact inR_c (by omega)
  · refine aw_post (m_moved 9 (CA sb 1 T G L O R P C B D S N) mT mG mR mU mP mO mS mN (BH 73 β) s10) (fun r h' e => ?_)
    obtain ⟨rfl, rfl⟩ := e
    exact ⟨by rw [s2, s4.1], Inv_mk sb 1 T G L O R P C B D S N β mT mG mR mU mP mO mS mN h0⟩
theorem J_sits1 {X : AX} (sb : Nat) (T : TyT) (G : TyG) (L : TyL) (O : TyO) (R : TyR) (P : TyP) (C : TyC) (B D : TyB) (S N : TyS) (β : List TyBn) (mT : TyT) (mG : TyMG) (mR : TyMR) (mU : TyMU) (mP : TyMP) (mO : TyO) (mS : TyMS) (mN : TyMN) (h : RR sb 1 T G L O R C B D S N β mT mG mR mU mP mS mN) (g w : Int) (hg : inR g) (hw : inR w) : JS X 0 0 91 135 [iv g, iv w] (CV (CA sb 1 T G L O R P C B D S N) (MV (MA mT mG mR mU mP mO mS mN) (BH 73 β))) (MA mT mG mR mU mP mO mS mN) := by
  have h0 := h
  obtain ⟨hsb, hss, hT, hG, hH, hF, hO, hf, hU, hB, hS, hN, hX⟩ := h
  have hS' : rS N mS mG mR.2.2.2.1 := hS
  obtain ⟨k1, k2, k3⟩ := rS_k hS' hH.2.2.2.2.2.2.2.1
  obtain ⟨s1, s2, s3, s4, s5, s6, s7, s8, s9⟩ := hS'
  have hgt := s1.2.2.2
  have hgr : inR (N.1 g) := by
    by_cases c : 0 ≤ g ∧ g < 32
    · have := k1.2.2 g c.1 c.2
      exact inR_c (by omega)
    · have := hX g c
      exact inR_c (by omega)
  refine c_sits1 6 sb T G L O R P C B D S N (MV (MA mT mG mR mU mP mO mS mN) (BH 73 β)) g w hg hw hgr (fun q => ?_) (fun q => ?_)
  · refine ⟨-2, CA sb 1 T G L O R P C B D S N, BH 73 β, inR_c (by omega), rfl, rfl, ?_⟩
    refine m_sits 9 (CA sb 1 T G L O R P C B D S N) mT mG mR mU mP mO mS mN (BH 73 β) g w hg hw s1 hG.1 (fun _ => ⟨rfl, Inv_mk sb 1 T G L O R P C B D S N β mT mG mR mU mP mO mS mN h0⟩) (fun k => ?_)
    exfalso
    have kr := k.2.1
    have hr := s1.1 g
    rcases (s6 g kr.1 (by omega)).2 with ⟨a, b, c⟩ | ⟨a, b, c, e⟩ | ⟨a, b⟩
    · exact q ⟨⟨by omega, by omega⟩, k.2.2.2⟩
    · exact q ⟨⟨by omega, by omega⟩, k.2.2.2⟩
    · exact a ⟨k.1, k.2.1.2, k.2.2.1⟩
  · have g0 : 0 ≤ g := q.1.1.1
    have g1 : g < 32 := by have := q.1.1.2; omega
    have hgv := hG.2.1.2.1 g g0 g1
    have hw6 := hG.1.2.2.1 g g0 g1
    have hw7 := hG.1.2.1 (6 * g + 4)
    have hkg := k1.2.2 g g0 g1
    have hp := s1.2.1 g
    have hr := s1.1 g
    refine ⟨_, CA sb 1 T G L O R P C B D S N, BH 73 β, ?_, rfl, rfl, ?_⟩
    · refine cif_ind (P := inR) (fun _ => inR_c (by omega)) (fun _ => cif_ind (P := inR) (fun _ => inR_c (by omega)) (fun _ => inR_c (by omega)))
    · refine m_sits 9 (CA sb 1 T G L O R P C B D S N) mT mG mR mU mP mO mS mN (BH 73 β) g w hg hw s1 hG.1 (fun k => ?_) (fun k => ?_)
      · exfalso
        rcases (s6 g g0 g1).2 with ⟨a, b, c⟩ | ⟨a, b, c, e⟩ | ⟨a, b⟩
        · exact k ⟨a.1, ⟨g0, a.2.2.1⟩, by have := a.2.2.2; omega, q.2⟩
        · exact k ⟨a, ⟨g0, b⟩, by omega, q.2⟩
        · exact q.1.2 b
      · refine ⟨?_, Inv_mk sb 1 T G L O R P C B D S N β mT mG mR mU mP mO mS mN h0⟩
        rcases (s6 g g0 g1).2 with ⟨a, b, c⟩ | ⟨a, b, c, e⟩ | ⟨a, b⟩
        · have ha := a.2.2.2
          rw [cif_f (show ¬ mS.1 g = 6 from by omega)]
          by_cases w0 : w = 0
          · rw [cif_t w0, cif_t (Or.inl w0), b]
          · rw [cif_f w0, cif_f (show ¬ (w = 0 ∨ N.1 g = -1) from by omega)]
            by_cases w1 : w = 1
            · rw [cif_t w1, cif_t w1, c]
            · rw [cif_f w1, cif_f w1, c, hgv.2.2.2.2.1]
        · rw [cif_t c, cif_t (Or.inr e), e]
        · exact absurd b q.1.2
theorem J_comes {X : AX} (sb ss : Nat) (T : TyT) (G : TyG) (L : TyL) (O : TyO) (R : TyR) (P : TyP) (C : TyC) (B D : TyB) (S N : TyS) (β : List TyBn) (mT : TyT) (mG : TyMG) (mR : TyMR) (mU : TyMU) (mP : TyMP) (mO : TyO) (mS : TyMS) (mN : TyMN) (h : RR sb ss T G L O R C B D S N β mT mG mR mU mP mS mN) (g w : Int) (hg : inR g) (hw : inR w) : JS X 0 0 98 143 [iv g, iv w] (CV (CA sb ss T G L O R P C B D S N) (MV (MA mT mG mR mU mP mO mS mN) (BH 73 β))) (MA mT mG mR mU mP mO mS mN) := by
  have h0 := h
  obtain ⟨hsb, hss, hT, hG, hH, hF, hO, hf, hU, hB, hS, hN, hX⟩ := h
  obtain ⟨n1, n2, n3, n4⟩ := hN
  have hg0 := hG.1.1
  have hc := hG.2.1.1
  refine aw_post (c_comes 7 sb ss T G L O R P C B D S N (MV (MA mT mG mR mU mP mO mS mN) (BH 73 β)) g w hg hw (by omega)) (fun r h' e => ?_)
  obtain ⟨rfl, rfl⟩ := e
  refine ⟨_, (CA sb ss T G L O R P C B D S N), BH 73 β, ?_, rfl, rfl, ?_⟩
  · refine cif_ind (P := inR) (fun c => ?_) (fun _ => inR_c (by omega))
    have h3 := n3 g c.1 (by omega)
    rcases n4 g c.1 (by omega) with ⟨a1, a2, a3, a4, a5, a6⟩ | ⟨a1, a2, a3, a4⟩
    · exact cif_ind (P := inR) (fun _ => inR_c (by omega)) (fun _ => cif_ind (P := inR) (fun _ => inR_c (by omega)) (fun _ => cif_ind (P := inR) (fun _ => inR_c (by omega)) (fun _ => inR_c (by omega))))
    · exact cif_ind (P := inR) (fun _ => inR_c (by omega)) (fun _ => cif_ind (P := inR) (fun _ => inR_c (by omega)) (fun _ => cif_ind (P := inR) (fun _ => inR_c (by omega)) (fun _ => inR_c (by omega))))
  · refine m_comes 9 (CA sb ss T G L O R P C B D S N) mT mG mR mU mP mO mS mN (BH 73 β) g w hg hw n1 (by omega) n3 (fun k => ?_) (fun k => ?_)
    · refine ⟨?_, Inv_mk sb ss T G L O R P C B D S N β mT mG mR mU mP mO mS mN h0⟩
      by_cases c : 0 ≤ g ∧ g < G.2.2.2.2.2.2.2.2.1
      · rw [cif_t c]
        rcases n4 g c.1 (by omega) with ⟨a1, a2, a3, a4, a5, a6⟩ | ⟨a1, a2, a3, a4⟩
        · exact absurd ⟨a1.1, ⟨c.1, a1.2.1⟩, a1.2.2⟩ k
        · rw [a2, a3, a4]
          have : ∀ p q s : Prop, cif p (-1 : Int) (cif q (-1) (cif s (-1) (-1))) = -1 := fun p q s => cif_ind (P := fun z => z = -1) (fun _ => rfl) (fun _ => cif_ind (P := fun z => z = -1) (fun _ => rfl) (fun _ => cif_ind (P := fun z => z = -1) (fun _ => rfl) (fun _ => rfl)))
          rw [this]
      · rw [cif_f c]
    · refine ⟨?_, Inv_mk sb ss T G L O R P C B D S N β mT mG mR mU mP mO mS mN h0⟩
      rw [cif_t (show 0 ≤ g ∧ g < G.2.2.2.2.2.2.2.2.1 from by omega)]
      rcases n4 g (by omega) (by omega) with ⟨a1, a2, a3, a4, a5, a6⟩ | ⟨a1, a2, a3, a4⟩
      · rw [a2, a3, a4]
      · exact absurd ⟨k.1, k.2.1.2, k.2.2⟩ a1

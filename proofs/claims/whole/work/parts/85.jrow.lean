theorem add_rH {L : TyL} {β : List TyBn} {mR : TyMR} {w f dp ds : Int} (hH : rH L β mR) (hF : kF mR) (hok : ((4 ≤ w ∧ w ≤ 40) ∧ (0 ≤ f ∧ f ≤ 300) ∧ (20 ≤ dp ∧ dp ≤ 60)) ∧ mR.2.2.2.1 < 6) (h1 : L.2.1 = 0 → ds = dp) (h2 : ∀ b, β[β.length - 1]? = some b → ds = b.2.2.2.1 + dp) :
    rH (aUp L.1 L.2.1 (some (73 + 4 * β.length)), L.2.1 + 1, L.2.2.1, L.2.2.2.1, L.2.2.2.2) (β ++ [(L.2.1, w, f, ds, zf, zf, zf)]) (addR mR w f dp) ∧ kF (addR mR w f dp) := by
  obtain ⟨b1, b2, b3, b4, b5, b6, b7, r1, r2, r3, r4, r5, r6⟩ := hH
  obtain ⟨⟨o1, o2, o3⟩, o4⟩ := hok
  have hds : ds = dp + (if mR.2.2.2.1 = 0 then 0 else mR.2.2.1 (mR.2.2.2.1 - 1)) := by
    by_cases c : mR.2.2.2.1 = 0
    · rw [if_pos c, h1 (by omega)]; omega
    · rw [if_neg c]
      have hl : β.length - 1 < β.length := by omega
      have hx := List.getElem?_eq_getElem hl
      rw [h2 _ hx, (b4 _ _ hx).2.2.2, show ((β.length - 1 : Nat) : Int) = mR.2.2.2.1 - 1 from by omega]
      omega
  have hdr : 20 * (mR.2.2.2.1 + 1) ≤ ds ∧ ds ≤ 60 * (mR.2.2.2.1 + 1) ∧ (∀ r, 0 ≤ r → r + 1 = mR.2.2.2.1 → mR.2.2.1 r + 20 ≤ ds) := by
    by_cases c : mR.2.2.2.1 = 0
    · rw [if_pos c] at hds
      exact ⟨by omega, by omega, fun r a b => by omega⟩
    · rw [if_neg c] at hds
      have := r2 (mR.2.2.2.1 - 1) (by omega) (by omega)
      refine ⟨by omega, by omega, fun r a b => ?_⟩
      rw [show mR.2.2.2.1 - 1 = r from by omega] at hds
      omega
  unfold addR
  rw [← hds]
  refine ⟨⟨?_, fun i hi => ?_, ?_, fun r b hb => ?_, b5, b6, b7, ⟨?_, fun r z0 z1 => ?_, fun r z0 z1 => ?_, r4, r5, r6⟩⟩, fun r z0 z1 => ?_⟩
  · show L.2.1 + 1 = mR.2.2.2.1 + 1
    rw [b1]
  · show aUp L.1 L.2.1 (some (73 + 4 * β.length)) i = some (73 + 4 * i)
    have hi' : (i : Int) < L.2.1 + 1 := hi
    by_cases e : (i : Int) = L.2.1
    · rw [e, aUp_s]
      congr 2
      omega
    · rw [aUp_n _ _ e]
      exact b2 i (by omega)
  · rw [List.length_append]
    show ((β.length + 1 : Nat) : Int) = mR.2.2.2.1 + 1
    push_cast
    omega
  · show b.1 = r ∧ b.2.1 = aUp mR.1 mR.2.2.2.1 w r ∧ b.2.2.1 = aUp mR.2.1 mR.2.2.2.1 f r ∧ b.2.2.2.1 = aUp mR.2.2.1 mR.2.2.2.1 ds r
    by_cases e : r < β.length
    · rw [List.getElem?_append_left e] at hb
      have := b4 r b hb
      rw [aUp_n _ _ (by omega), aUp_n _ _ (by omega), aUp_n _ _ (by omega)]
      exact this
    · rw [List.getElem?_append_right (by omega)] at hb
      have er : r - β.length = 0 := by
        rcases Nat.eq_zero_or_pos (r - β.length) with z | z
        · exact z
        · rw [List.getElem?_eq_none (by simp only [List.length_cons, List.length_nil]; omega)] at hb
          cases hb
      rw [er] at hb
      cases hb
      have e2 : (r : Int) = mR.2.2.2.1 := by omega
      rw [e2, aUp_s, aUp_s, aUp_s]
      exact ⟨b1, rfl, rfl, rfl⟩
  · show 0 ≤ mR.2.2.2.1 + 1 ∧ mR.2.2.2.1 + 1 ≤ 6
    omega
  · have z1' : r < mR.2.2.2.1 + 1 := z1
    show (4 ≤ aUp mR.1 mR.2.2.2.1 w r ∧ aUp mR.1 mR.2.2.2.1 w r ≤ 40) ∧ (0 ≤ aUp mR.2.1 mR.2.2.2.1 f r ∧ aUp mR.2.1 mR.2.2.2.1 f r ≤ 300) ∧ (20 * (r + 1) ≤ aUp mR.2.2.1 mR.2.2.2.1 ds r ∧ aUp mR.2.2.1 mR.2.2.2.1 ds r ≤ 60 * (r + 1))
    by_cases e : r = mR.2.2.2.1
    · rw [e, aUp_s, aUp_s, aUp_s]
      exact ⟨o1, o2, hdr.1, hdr.2.1⟩
    · rw [aUp_n _ _ e, aUp_n _ _ e, aUp_n _ _ e]
      exact r2 r z0 (by omega)
  · have z1' : r + 1 < mR.2.2.2.1 + 1 := z1
    show aUp mR.2.2.1 mR.2.2.2.1 ds r + 20 ≤ aUp mR.2.2.1 mR.2.2.2.1 ds (r + 1)
    rw [aUp_n _ _ (show r ≠ mR.2.2.2.1 from by omega)]
    by_cases e : r + 1 = mR.2.2.2.1
    · rw [e, aUp_s]
      exact hdr.2.2 r z0 e
    · rw [aUp_n _ _ e]
      exact r3 r z0 (by omega)
  · show (0 ≤ aUp mR.2.1 mR.2.2.2.1 f r ∧ aUp mR.2.1 mR.2.2.2.1 f r ≤ 300) ∧ (0 ≤ aUp mR.2.2.1 mR.2.2.2.1 ds r ∧ aUp mR.2.2.1 mR.2.2.2.1 ds r ≤ 400)
    by_cases e : r = mR.2.2.2.1
    · rw [e, aUp_s, aUp_s]
      omega
    · rw [aUp_n _ _ e, aUp_n _ _ e]
      exact hF r z0 z1
theorem J_row {X : AX} (sb ss : Nat) (T : TyT) (G : TyG) (L : TyL) (O : TyO) (R : TyR) (P : TyP) (C : TyC) (B D : TyB) (S N : TyS) (β : List TyBn) (mT : TyT) (mG : TyMG) (mR : TyMR) (mU : TyMU) (mP : TyMP) (mO : TyO) (mS : TyMS) (mN : TyMN) (h : RR sb ss T G L O R C B D S N β mT mG mR mU mP mS mN) (w f dp : Int) (hw : inR w) (hff : inR f) (hd : inR dp) : JS X 4 2705 83 109 [iv w, iv f, iv dp] (CV (CA sb ss T G L O R P C B D S N) (MV (MA mT mG mR mU mP mO mS mN) (BH 73 β))) (MA mT mG mR mU mP mO mS mN) := by
  have h0 := h
  obtain ⟨hsb, hss, hT, hG, hH, hF, hO, hf, hU, hB, hS, hN, hX⟩ := h
  have hr6 := hH.2.2.2.2.2.2.2.1
  have e1 := hH.1
  refine c_row 5 sb ss T G L O R P C B D S N (MA mT mG mR mU mP mO mS mN) β w f dp hw hff hd (by omega) hH.2.1 (by rw [e1]; exact hH.2.2.1) (fun q => ?_) (fun q ds d1 d2 => ?_)
  · refine ⟨-1, (CA sb ss T G L O R P C B D S N), BH 73 β, inR_c (by omega), rfl, rfl, ?_⟩
    exact m_row 9 (CA sb ss T G L O R P C B D S N) mT mG mR mU mP mO mS mN (BH 73 β) w f dp hw hff hd hr6 (fun _ => ⟨rfl, Inv_mk sb ss T G L O R P C B D S N β mT mG mR mU mP mO mS mN h0⟩) (fun z => absurd ⟨z.1, by omega⟩ q)
  · have q' : ((4 ≤ w ∧ w ≤ 40) ∧ (0 ≤ f ∧ f ≤ 300) ∧ (20 ≤ dp ∧ dp ≤ 60)) ∧ mR.2.2.2.1 < 6 := ⟨q.1, by omega⟩
    obtain ⟨a1, a2⟩ := add_rH hH hF q' d1 d2
    refine ⟨_, CA sb ss T G (aUp L.1 L.2.1 (some (73 + 4 * β.length)), L.2.1 + 1, L.2.2.1, L.2.2.2.1, L.2.2.2.2) O R P C B D S N, BH 73 (β ++ [(L.2.1, w, f, ds, zf, zf, zf)]), inR_c (by omega), rfl, rfl, ?_⟩
    refine m_row 9 _ mT mG mR mU mP mO mS mN (BH 73 (β ++ [(L.2.1, w, f, ds, zf, zf, zf)])) w f dp hw hff hd hr6 (fun z => absurd q' z) (fun _ => ⟨by rw [e1], Inv_mk sb ss T G (aUp L.1 L.2.1 (some (73 + 4 * β.length)), L.2.1 + 1, L.2.2.1, L.2.2.2.1, L.2.2.2.2) O R P C B D S N (β ++ [(L.2.1, w, f, ds, zf, zf, zf)]) mT mG (addR mR w f dp) mU mP mO mS mN ⟨hsb, hss, hT, hG, a1, a2, hO, hf, hU, hB, rS_mono ?_ (Int.le_refl _) (fun _ _ => rfl) hS, hN, hX⟩⟩)
    show mR.2.2.2.1 ≤ mR.2.2.2.1 + 1
    omega
theorem J_rules1 {X : AX} (ss : Nat) (T : TyT) (G : TyG) (L : TyL) (O : TyO) (R : TyR) (P : TyP) (C : TyC) (B D : TyB) (S N : TyS) (β : List TyBn) (mT : TyT) (mG : TyMG) (mR : TyMR) (mU : TyMU) (mP : TyMP) (mO : TyO) (mS : TyMS) (mN : TyMN) (h : RR 1 ss T G L O R C B D S N β mT mG mR mU mP mS mN) : JS X 0 0 85 120 [] (CV (CA 1 ss T G L O R P C B D S N) (MV (MA mT mG mR mU mP mO mS mN) (BH 73 β))) (MA mT mG mR mU mP mO mS mN) := by
  have h0 := h
  obtain ⟨hsb, hss, hT, hG, hH, hF, hO, hf, hU, hB, hS, hN, hX⟩ := h
  have hB' : rB D mU := hB
  obtain ⟨t1, t2, t3, t4⟩ := hT
  have hpr := prs_r (tp := mT.1) (n := mT.2) 201 0 0 1 (pb0 mP) (by omega)
  have hT' : rT (T.1, 0) (mT.1, 0) := ⟨rfl, ⟨Int.le_refl 0, by dsimp only; omega⟩, t3, t4⟩
  refine c_rules0 1 ss T G L O R P C B D S N (MV (MA mT mG mR mU mP mO mS mN) (BH 73 β)) (R := prs mT.1 mT.2 201 0 0 1 (pb0 mP)) mT.1 mG mU mP t2 t3 t4 hG.1 hG.2.1 hf.2.2.1 (by rw [t1]) (fun b' R' q1 q2 q3 q4 => ?_) (fun b' R' q1 q2 q3 q4 q5 q6 => ?_)
  · refine ⟨-1, CA 1 ss (T.1, 0) G L O R' P C b' D S N, BH 73 β, inR_c (by omega), rfl, rfl, ?_⟩
    refine m_rules 4 _ mT mG mR mU mP mO mS mN (BH 73 β) (R := prs mT.1 mT.2 201 0 0 1 (pb0 mP)) (by omega) t4 rfl (fun mP' z1 z2 => ⟨rfl, Inv_mk 1 ss (T.1, 0) G L O R' P C b' D S N β (mT.1, 0) mG mR mU mP' mO mS mN ⟨hsb, hss, hT', hG, hH, hF, hO, ?_, hU, hB', hS, hN, hX⟩⟩) (fun mP' p K z => by omega)
    obtain ⟨y1, y2, y3, y4⟩ := z2
    exact ⟨by rw [q2, y1], by rw [q3, y2], q4, by omega, by omega⟩
  · have hU' := q6.1
    refine ⟨_, CA 0 ss (T.1, 0) G L (ordM mG (cpU mU (prs mT.1 mT.2 201 0 0 1 (pb0 mP)).2.2) O) R' P C b' D S N, BH 73 β, ?_, rfl, rfl, ?_⟩
    · have : 0 ≤ (prs mT.1 mT.2 201 0 0 1 (pb0 mP)).2.2.2.2.2 ∧ (prs mT.1 mT.2 201 0 0 1 (pb0 mP)).2.2.2.2.2 ≤ 8 := hU'
      exact inR_c (by omega)
    · refine m_rules 4 _ mT mG mR mU mP mO mS mN (BH 73 β) (R := prs mT.1 mT.2 201 0 0 1 (pb0 mP)) (by omega) t4 rfl (fun mP' z1 z2 => by omega) (fun mP' p K z1 z2 z3 z4 => ⟨rfl, Inv_mk 0 ss (T.1, 0) G L (ordM mG (cpU mU (prs mT.1 mT.2 201 0 0 1 (pb0 mP)).2.2) O) R' P C b' D S N β (mT.1, 0) mG mR (cpU mU (prs mT.1 mT.2 201 0 0 1 (pb0 mP)).2.2) mP' mO mS mN ⟨?_, hss, hT', hG, hH, hF, (ordM_ok hG.1).1, ⟨by rw [q2, z2], by rw [q3, z3], q4, by omega, by omega⟩, q6, q5, hS, hN, hX⟩⟩)
      first | exact Or.inl rfl | exact Or.inr rfl
theorem J_rules0 {X : AX} (ss : Nat) (T : TyT) (G : TyG) (L : TyL) (O : TyO) (R : TyR) (P : TyP) (C : TyC) (B D : TyB) (S N : TyS) (β : List TyBn) (mT : TyT) (mG : TyMG) (mR : TyMR) (mU : TyMU) (mP : TyMP) (mO : TyO) (mS : TyMS) (mN : TyMN) (h : RR 0 ss T G L O R C B D S N β mT mG mR mU mP mS mN) : JS X 0 0 85 120 [] (CV (CA 0 ss T G L O R P C B D S N) (MV (MA mT mG mR mU mP mO mS mN) (BH 73 β))) (MA mT mG mR mU mP mO mS mN) := by
  have h0 := h
  obtain ⟨hsb, hss, hT, hG, hH, hF, hO, hf, hU, hB, hS, hN, hX⟩ := h
  have hB' : rB B mU := hB
  obtain ⟨t1, t2, t3, t4⟩ := hT
  have hpr := prs_r (tp := mT.1) (n := mT.2) 201 0 0 1 (pb0 mP) (by omega)
  have hT' : rT (T.1, 0) (mT.1, 0) := ⟨rfl, ⟨Int.le_refl 0, by dsimp only; omega⟩, t3, t4⟩
  refine c_rules1 1 ss T G L O R P C B D S N (MV (MA mT mG mR mU mP mO mS mN) (BH 73 β)) (R := prs mT.1 mT.2 201 0 0 1 (pb0 mP)) mT.1 mG mU mP t2 t3 t4 hG.1 hG.2.1 hf.2.2.1 (by rw [t1]) (fun b' R' q1 q2 q3 q4 => ?_) (fun b' R' q1 q2 q3 q4 q5 q6 => ?_)
  · refine ⟨-1, CA 0 ss (T.1, 0) G L O R' P C B b' S N, BH 73 β, inR_c (by omega), rfl, rfl, ?_⟩
    refine m_rules 4 _ mT mG mR mU mP mO mS mN (BH 73 β) (R := prs mT.1 mT.2 201 0 0 1 (pb0 mP)) (by omega) t4 rfl (fun mP' z1 z2 => ⟨rfl, Inv_mk 0 ss (T.1, 0) G L O R' P C B b' S N β (mT.1, 0) mG mR mU mP' mO mS mN ⟨hsb, hss, hT', hG, hH, hF, hO, ?_, hU, hB', hS, hN, hX⟩⟩) (fun mP' p K z => by omega)
    obtain ⟨y1, y2, y3, y4⟩ := z2
    exact ⟨by rw [q2, y1], by rw [q3, y2], q4, by omega, by omega⟩
  · have hU' := q6.1
    refine ⟨_, CA 1 ss (T.1, 0) G L (ordM mG (cpU mU (prs mT.1 mT.2 201 0 0 1 (pb0 mP)).2.2) O) R' P C B b' S N, BH 73 β, ?_, rfl, rfl, ?_⟩
    · have : 0 ≤ (prs mT.1 mT.2 201 0 0 1 (pb0 mP)).2.2.2.2.2 ∧ (prs mT.1 mT.2 201 0 0 1 (pb0 mP)).2.2.2.2.2 ≤ 8 := hU'
      exact inR_c (by omega)
    · refine m_rules 4 _ mT mG mR mU mP mO mS mN (BH 73 β) (R := prs mT.1 mT.2 201 0 0 1 (pb0 mP)) (by omega) t4 rfl (fun mP' z1 z2 => by omega) (fun mP' p K z1 z2 z3 z4 => ⟨rfl, Inv_mk 1 ss (T.1, 0) G L (ordM mG (cpU mU (prs mT.1 mT.2 201 0 0 1 (pb0 mP)).2.2) O) R' P C B b' S N β (mT.1, 0) mG mR (cpU mU (prs mT.1 mT.2 201 0 0 1 (pb0 mP)).2.2) mP' mO mS mN ⟨?_, hss, hT', hG, hH, hF, (ordM_ok hG.1).1, ⟨by rw [q2, z2], by rw [q3, z3], q4, by omega, by omega⟩, q6, q5, hS, hN, hX⟩⟩)
      first | exact Or.inl rfl | exact Or.inr rfl

theorem hdB_rH {L : TyL} {β β' : List TyBn} {mR : TyMR} {V : DP} (hH : rH L β mR) (hr : dR V = mR.2.2.2.1) (hx : ∀ r, dX V r = mR.1 r) (hb : okB V β') (hd : hdB β' = hdB β) : rH L β' mR := by
  obtain ⟨b1, b2, b3, b4, b5, b6, b7, hR⟩ := hH
  refine ⟨b1, b2, by rw [hb.1, hr], fun r b hbr => ?_, b5, b6, b7, hR⟩
  obtain ⟨c1, c2, c3⟩ := hb.2 r b hbr
  have e1 : (hdB β')[r]? = some (b.2.2.1, b.2.2.2.1) := by
    unfold hdB
    rw [List.getElem?_map, hbr]
    rfl
  rw [hd] at e1
  unfold hdB at e1
  rw [List.getElem?_map] at e1
  cases hc : β[r]? with
  | none => rw [hc] at e1; cases e1
  | some x =>
    rw [hc] at e1
    have e2 : (x.2.2.1, x.2.2.2.1) = (b.2.2.1, b.2.2.2.1) := Option.some.inj e1
    obtain ⟨e3, e4⟩ := Prod.mk.inj e2
    obtain ⟨d1, d2, d3, d4⟩ := b4 r x hc
    exact ⟨c1, by rw [c3, hx], by rw [← e3, d3], by rw [← e4, d4]⟩
theorem J_seat0 {X : AX} (sb : Nat) (T : TyT) (G : TyG) (L : TyL) (O : TyO) (R : TyR) (P : TyP) (C : TyC) (B D : TyB) (S N : TyS) (β : List TyBn) (mT : TyT) (mG : TyMG) (mR : TyMR) (mU : TyMU) (mP : TyMP) (mO : TyO) (mS : TyMS) (mN : TyMN) (h : RR sb 0 T G L O R C B D S N β mT mG mR mU mP mS mN) (an : Int) (han : an = 0 ∨ an = 1) : JS X 0 0 89 132 [iv an] (CV (CA sb 0 T G L O R P C B D S N) (MV (MA mT mG mR mU mP mO mS mN) (BH 73 β))) (MA mT mG mR mU mP mO mS mN) := by
  obtain ⟨hsb, hss, hT, hG, hH, hF, hO, hf, hU, hB, hS, hN, hX⟩ := h
  have hS' : rS S mS mG mR.2.2.2.1 := hS
  have hR := hH.2.2.2.2.2.2.2
  obtain ⟨e1, e2, e3, e4⟩ := rO_eq (mO := mO) hG.1 hO
  obtain ⟨hoI, hole, _⟩ := ordM_ok (mG := mG) (mU := mU) (mO := mO) hG.1
  have hg0 := hG.1.1
  have hO0 := hO.1
  have hn : 0 ≤ (ordM mG mU mO).2 ∧ (ordM mG mU mO).2 ≤ 32 := by omega
  have ho : ∀ i, 0 ≤ i → i < (ordM mG mU mO).2 → 0 ≤ (ordM mG mU mO).1 i ∧ (ordM mG mU mO).1 i < mG.2.2.2 := fun i i0 i1 => (hoI.2.2.1 i i0 i1).1
  have hV : kD (DM mG mR (ordM mG mU mO).1 (ordM mG mU mO).2 (rwM mS) (pwM mS) an) := DM_k hG.1 hR hn ho
  have hinj : ∀ a b : Nat, a < (ordM mG mU mO).2.toNat → b < (ordM mG mU mO).2.toNat → (ordM mG mU mO).1 a = (ordM mG mU mO).1 b → a = b := by
    intro a b ha hb e
    rcases Nat.lt_trichotomy a b with z | z | z
    · exfalso
      have := hoI.2.1 a b (by omega) (by omega) (by omega)
      rw [e] at this
      exact (ahM_sto mG mU).1 _ this
    · exact z
    · exfalso
      have := hoI.2.1 b a (by omega) (by omega) (by omega)
      rw [e] at this
      exact (ahM_sto mG mU).1 _ this
  have hokB : okB (DM mG mR (ordM mG mU mO).1 (ordM mG mU mO).2 (rwM mS) (pwM mS) an) β := by
    refine ⟨hH.2.2.1, fun r b hb => ?_⟩
    obtain ⟨c1, c2, c3, c4⟩ := hH.2.2.2.1 r b hb
    obtain ⟨hl, _⟩ := List.getElem?_eq_some_iff.mp hb
    have h3 := hH.2.2.1
    have := hR.2.1 r (by omega) (by omega)
    exact ⟨c1, by omega, c2⟩
  have hpr := VV_r hV ((ordM mG mU mO).2 - 0).toNat (dB (DM mG mR (ordM mG mU mO).1 (ordM mG mU mO).2 (rwM mS) (pwM mS) an) (-1)) 0 (cif ((-1 : Int) < 0) 0 0) (by show (((ordM mG mU mO).2 - 0).toNat : Int) ≤ (ordM mG mU mO).2; omega)
  have hpr' : 0 ≤ pr4 (DM mG mR (ordM mG mU mO).1 (ordM mG mU mO).2 (rwM mS) (pwM mS) an) 0 (-1) 0 0 ∧ pr4 (DM mG mR (ordM mG mU mO).1 (ordM mG mU mO).2 (rwM mS) (pwM mS) an) 0 (-1) 0 0 ≤ 64001 * ((ordM mG mU mO).2 - 0).toNat := hpr
  have hz : inR (Int.tdiv (pr4 (DM mG mR (ordM mG mU mO).1 (ordM mG mU mO).2 (rwM mS) (pwM mS) an) 0 (-1) 0 0) 64) := by
    rw [Int.tdiv_eq_ediv_of_nonneg hpr'.1]
    exact inR_c (by omega)
  refine c_seat0 2 sb T G L O R P C B D S N (MA mT mG mR mU mP mO mS mN) β mG mR (ordM mG mU mO).1 (rwM mS) (pwM mS) (ordM mG mU mO).2 an (DM mG mR (ordM mG mU mO).1 (ordM mG mU mO).2 (rwM mS) (pwM mS) an) rfl hV hG.1 hG.2.1 hG.2.2.1 han hn e1 (fun i i0 i1 => ⟨e2 i i0 (by omega), ho i i0 i1⟩) (rS_sw hS' hR.1) ⟨hH.1, hH.2.1⟩ ⟨hH.2.2.2.2.2.1, hH.2.2.2.2.2.2.1⟩ hokB hinj (fun β' P' hb' hd' => ?_)
  refine ⟨_, _, BH 73 β', hz, rfl, rfl, ?_⟩
  refine m_seat 6 _ mT mG mR mU mP mO mS mN (BH 73 β') an hG.1 hU hR hS'.1 han (fun f o V eo eV' => ?_)
  subst eo
  subst eV'
  refine ⟨rfl, Inv_mk sb 1 T G L O R P' C B D S (rcA (DM mG mR (ordM mG mU mO).1 (ordM mG mU mO).2 (rwM mS) (pwM mS) an) (ordM mG mU mO).1 (ordM mG mU mO).2.toNat (fil N.1 (-2) 32), poA (DM mG mR (ordM mG mU mO).1 (ordM mG mU mO).2 (rwM mS) (pwM mS) an) (ordM mG mU mO).1 (ordM mG mU mO).2.toNat (fil N.2.1 (-1) 32), (lnA (DM mG mR (ordM mG mU mO).1 (ordM mG mU mO).2 (rwM mS) (pwM mS) an) (ordM mG mU mO).1 (ordM mG mU mO).2.toNat (N.2.2.1, 0)).1, (lnA (DM mG mR (ordM mG mU mO).1 (ordM mG mU mO).2 (rwM mS) (pwM mS) an) (ordM mG mU mO).1 (ordM mG mU mO).2.toNat (N.2.2.1, 0)).2, L.2.1, smN (eV (DM mG mR (ordM mG mU mO).1 (ordM mG mU mO).2 (rwM mS) (pwM mS) an) (ordM mG mU mO).1 (rwM mS) (pwM mS)) (ordM mG mU mO).2.toNat, 1) β' mT mG mR mU mP (ordM mG mU mO) (roA (DM mG mR (ordM mG mU mO).1 (ordM mG mU mO).2 (rwM mS) (pwM mS) an) (ordM mG mU mO).1 (ordM mG mU mO).2.toNat (fil mS.1 7 32), poA (DM mG mR (ordM mG mU mO).1 (ordM mG mU mO).2 (rwM mS) (pwM mS) an) (ordM mG mU mO).1 (ordM mG mU mO).2.toNat mS.2.1, rwM mS, pwM mS, f, 1, mR.2.2.2.1, smN (fun i => mvM (rwM mS) (pwM mS) 1 ((ordM mG mU mO).1 i) (roA (DM mG mR (ordM mG mU mO).1 (ordM mG mU mO).2 (rwM mS) (pwM mS) an) (ordM mG mU mO).1 (ordM mG mU mO).2.toNat (fil mS.1 7 32) ((ordM mG mU mO).1 i)) (poA (DM mG mR (ordM mG mU mO).1 (ordM mG mU mO).2 (rwM mS) (pwM mS) an) (ordM mG mU mO).1 (ordM mG mU mO).2.toNat mS.2.1 ((ordM mG mU mO).1 i))) (ordM mG mU mO).2.toNat, mG.2.2.2) mN ⟨hsb, ?_, hT, hG, hdB_rH hH rfl (fun _ => rfl) hb' hd', hF, hO, hf, hU, hB, seat_rS rfl hV hG.1 hn ho hinj hS'.1.1 hS'.1.2.1 hH.1 hR.1, hN, fun g hg => ?_⟩⟩
  · first | exact Or.inl rfl | exact Or.inr rfl
  · have h1 := hX g hg
    have h2 : rcA (DM mG mR (ordM mG mU mO).1 (ordM mG mU mO).2 (rwM mS) (pwM mS) an) (ordM mG mU mO).1 (ordM mG mU mO).2.toNat (fil N.1 (-2) 32) g = 0 := by
      rw [rcA_out _ (fun j hj e => by have := ho j (by omega) (by omega); omega), fil_ge 32 g hg]
      first | exact h1.1 | exact h1.2
    first | exact ⟨h1.1, h2⟩ | exact ⟨h2, h1.2⟩
theorem J_seat1 {X : AX} (sb : Nat) (T : TyT) (G : TyG) (L : TyL) (O : TyO) (R : TyR) (P : TyP) (C : TyC) (B D : TyB) (S N : TyS) (β : List TyBn) (mT : TyT) (mG : TyMG) (mR : TyMR) (mU : TyMU) (mP : TyMP) (mO : TyO) (mS : TyMS) (mN : TyMN) (h : RR sb 1 T G L O R C B D S N β mT mG mR mU mP mS mN) (an : Int) (han : an = 0 ∨ an = 1) : JS X 0 0 89 132 [iv an] (CV (CA sb 1 T G L O R P C B D S N) (MV (MA mT mG mR mU mP mO mS mN) (BH 73 β))) (MA mT mG mR mU mP mO mS mN) := by
  obtain ⟨hsb, hss, hT, hG, hH, hF, hO, hf, hU, hB, hS, hN, hX⟩ := h
  have hS' : rS N mS mG mR.2.2.2.1 := hS
  have hR := hH.2.2.2.2.2.2.2
  obtain ⟨e1, e2, e3, e4⟩ := rO_eq (mO := mO) hG.1 hO
  obtain ⟨hoI, hole, _⟩ := ordM_ok (mG := mG) (mU := mU) (mO := mO) hG.1
  have hg0 := hG.1.1
  have hO0 := hO.1
  have hn : 0 ≤ (ordM mG mU mO).2 ∧ (ordM mG mU mO).2 ≤ 32 := by omega
  have ho : ∀ i, 0 ≤ i → i < (ordM mG mU mO).2 → 0 ≤ (ordM mG mU mO).1 i ∧ (ordM mG mU mO).1 i < mG.2.2.2 := fun i i0 i1 => (hoI.2.2.1 i i0 i1).1
  have hV : kD (DM mG mR (ordM mG mU mO).1 (ordM mG mU mO).2 (rwM mS) (pwM mS) an) := DM_k hG.1 hR hn ho
  have hinj : ∀ a b : Nat, a < (ordM mG mU mO).2.toNat → b < (ordM mG mU mO).2.toNat → (ordM mG mU mO).1 a = (ordM mG mU mO).1 b → a = b := by
    intro a b ha hb e
    rcases Nat.lt_trichotomy a b with z | z | z
    · exfalso
      have := hoI.2.1 a b (by omega) (by omega) (by omega)
      rw [e] at this
      exact (ahM_sto mG mU).1 _ this
    · exact z
    · exfalso
      have := hoI.2.1 b a (by omega) (by omega) (by omega)
      rw [e] at this
      exact (ahM_sto mG mU).1 _ this
  have hokB : okB (DM mG mR (ordM mG mU mO).1 (ordM mG mU mO).2 (rwM mS) (pwM mS) an) β := by
    refine ⟨hH.2.2.1, fun r b hb => ?_⟩
    obtain ⟨c1, c2, c3, c4⟩ := hH.2.2.2.1 r b hb
    obtain ⟨hl, _⟩ := List.getElem?_eq_some_iff.mp hb
    have h3 := hH.2.2.1
    have := hR.2.1 r (by omega) (by omega)
    exact ⟨c1, by omega, c2⟩
  have hpr := VV_r hV ((ordM mG mU mO).2 - 0).toNat (dB (DM mG mR (ordM mG mU mO).1 (ordM mG mU mO).2 (rwM mS) (pwM mS) an) (-1)) 0 (cif ((-1 : Int) < 0) 0 0) (by show (((ordM mG mU mO).2 - 0).toNat : Int) ≤ (ordM mG mU mO).2; omega)
  have hpr' : 0 ≤ pr4 (DM mG mR (ordM mG mU mO).1 (ordM mG mU mO).2 (rwM mS) (pwM mS) an) 0 (-1) 0 0 ∧ pr4 (DM mG mR (ordM mG mU mO).1 (ordM mG mU mO).2 (rwM mS) (pwM mS) an) 0 (-1) 0 0 ≤ 64001 * ((ordM mG mU mO).2 - 0).toNat := hpr
  have hz : inR (Int.tdiv (pr4 (DM mG mR (ordM mG mU mO).1 (ordM mG mU mO).2 (rwM mS) (pwM mS) an) 0 (-1) 0 0) 64) := by
    rw [Int.tdiv_eq_ediv_of_nonneg hpr'.1]
    exact inR_c (by omega)
  refine c_seat1 2 sb T G L O R P C B D S N (MA mT mG mR mU mP mO mS mN) β mG mR (ordM mG mU mO).1 (rwM mS) (pwM mS) (ordM mG mU mO).2 an (DM mG mR (ordM mG mU mO).1 (ordM mG mU mO).2 (rwM mS) (pwM mS) an) rfl hV hG.1 hG.2.1 hG.2.2.1 han hn e1 (fun i i0 i1 => ⟨e2 i i0 (by omega), ho i i0 i1⟩) (rS_sw hS' hR.1) ⟨hH.1, hH.2.1⟩ ⟨hH.2.2.2.2.2.1, hH.2.2.2.2.2.2.1⟩ hokB hinj (fun β' P' hb' hd' => ?_)
  refine ⟨_, _, BH 73 β', hz, rfl, rfl, ?_⟩
  refine m_seat 6 _ mT mG mR mU mP mO mS mN (BH 73 β') an hG.1 hU hR hS'.1 han (fun f o V eo eV' => ?_)
  subst eo
  subst eV'
  refine ⟨rfl, Inv_mk sb 0 T G L O R P' C B D (rcA (DM mG mR (ordM mG mU mO).1 (ordM mG mU mO).2 (rwM mS) (pwM mS) an) (ordM mG mU mO).1 (ordM mG mU mO).2.toNat (fil S.1 (-2) 32), poA (DM mG mR (ordM mG mU mO).1 (ordM mG mU mO).2 (rwM mS) (pwM mS) an) (ordM mG mU mO).1 (ordM mG mU mO).2.toNat (fil S.2.1 (-1) 32), (lnA (DM mG mR (ordM mG mU mO).1 (ordM mG mU mO).2 (rwM mS) (pwM mS) an) (ordM mG mU mO).1 (ordM mG mU mO).2.toNat (S.2.2.1, 0)).1, (lnA (DM mG mR (ordM mG mU mO).1 (ordM mG mU mO).2 (rwM mS) (pwM mS) an) (ordM mG mU mO).1 (ordM mG mU mO).2.toNat (S.2.2.1, 0)).2, L.2.1, smN (eV (DM mG mR (ordM mG mU mO).1 (ordM mG mU mO).2 (rwM mS) (pwM mS) an) (ordM mG mU mO).1 (rwM mS) (pwM mS)) (ordM mG mU mO).2.toNat, 1) N β' mT mG mR mU mP (ordM mG mU mO) (roA (DM mG mR (ordM mG mU mO).1 (ordM mG mU mO).2 (rwM mS) (pwM mS) an) (ordM mG mU mO).1 (ordM mG mU mO).2.toNat (fil mS.1 7 32), poA (DM mG mR (ordM mG mU mO).1 (ordM mG mU mO).2 (rwM mS) (pwM mS) an) (ordM mG mU mO).1 (ordM mG mU mO).2.toNat mS.2.1, rwM mS, pwM mS, f, 1, mR.2.2.2.1, smN (fun i => mvM (rwM mS) (pwM mS) 1 ((ordM mG mU mO).1 i) (roA (DM mG mR (ordM mG mU mO).1 (ordM mG mU mO).2 (rwM mS) (pwM mS) an) (ordM mG mU mO).1 (ordM mG mU mO).2.toNat (fil mS.1 7 32) ((ordM mG mU mO).1 i)) (poA (DM mG mR (ordM mG mU mO).1 (ordM mG mU mO).2 (rwM mS) (pwM mS) an) (ordM mG mU mO).1 (ordM mG mU mO).2.toNat mS.2.1 ((ordM mG mU mO).1 i))) (ordM mG mU mO).2.toNat, mG.2.2.2) mN ⟨hsb, ?_, hT, hG, hdB_rH hH rfl (fun _ => rfl) hb' hd', hF, hO, hf, hU, hB, seat_rS rfl hV hG.1 hn ho hinj hS'.1.1 hS'.1.2.1 hH.1 hR.1, hN, fun g hg => ?_⟩⟩
  · first | exact Or.inl rfl | exact Or.inr rfl
  · have h1 := hX g hg
    have h2 : rcA (DM mG mR (ordM mG mU mO).1 (ordM mG mU mO).2 (rwM mS) (pwM mS) an) (ordM mG mU mO).1 (ordM mG mU mO).2.toNat (fil S.1 (-2) 32) g = 0 := by
      rw [rcA_out _ (fun j hj e => by have := ho j (by omega) (by omega); omega), fil_ge 32 g hg]
      first | exact h1.1 | exact h1.2
    first | exact ⟨h1.1, h2⟩ | exact ⟨h2, h1.2⟩

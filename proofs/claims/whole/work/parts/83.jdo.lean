theorem aUp_P {α : Type} {P : α → Prop} {f : Int → α} {i : Int} {v : α} (hf : ∀ k, P (f k)) (hv : P v) : ∀ k, P (aUp f i v k) := by
  intro k
  by_cases e : k = i
  · rw [e, aUp_s]; exact hv
  · rw [aUp_n _ _ e]; exact hf k
theorem rS_mono {S : TyS} {mS : TyMS} {mG mG' : TyMG} {rows rows' : Int} (hr : rows ≤ rows') (hc : mG.2.2.2 ≤ mG'.2.2.2) (hw : ∀ g, satM mS g → mG'.1 (6 * g + 4) = mG.1 (6 * g + 4)) (h : rS S mS mG rows) : rS S mS mG' rows' := by
  obtain ⟨h1, h2, h3, h4, h5, h6, h7, h8, h9⟩ := h
  refine ⟨h1, h2, ⟨h3.1, h3.2.1, by omega⟩, h4, by omega, h6, h7, ⟨h8.1, fun i j i0 ij j1 => ?_, h8.2.2.1, h8.2.2.2⟩, h9⟩
  have := h8.2.1 i j i0 ij j1
  unfold bef at this ⊢
  rw [hw _ (h8.2.2.1 i i0 (by omega))]
  exact this
theorem rN_mono {C : TyC} {mN : TyMN} {mG mG' : TyMG} (hc : mG.2.2.2 ≤ mG'.2.2.2) (h : rN C mN mG) : rN C mN mG' := by
  obtain ⟨h1, h2, h3, h4⟩ := h
  exact ⟨h1, ⟨h2.1, by omega⟩, h3, h4⟩
/-! a new guest -/
theorem addM_old {q : TyMG} {k dt ag wd ey wo x s : Int} (hs : 0 ≤ s ∧ s ≤ 5) (hx : x ≠ q.2.2.2) : (addM q k dt ag wd ey wo).1 (6 * x + s) = q.1 (6 * x + s) := by
  unfold addM
  dsimp only
  rw [aUp_n _ _ (by omega), aUp_n _ _ (by omega), aUp_n _ _ (by omega), aUp_n _ _ (by omega), aUp_n _ _ (by omega), aUp_n _ _ (by omega)]
theorem addM_new {q : TyMG} {k dt ag wd ey wo : Int} : (addM q k dt ag wd ey wo).1 (6 * q.2.2.2) = k ∧ (addM q k dt ag wd ey wo).1 (6 * q.2.2.2 + 1) = dt ∧ (addM q k dt ag wd ey wo).1 (6 * q.2.2.2 + 2) = ag ∧ (addM q k dt ag wd ey wo).1 (6 * q.2.2.2 + 3) = wo ∧ (addM q k dt ag wd ey wo).1 (6 * q.2.2.2 + 4) = wd ∧ (addM q k dt ag wd ey wo).1 (6 * q.2.2.2 + 5) = ey := by
  unfold addM
  dsimp only
  refine ⟨?_, ?_, ?_, ?_, ?_, ?_⟩
  · rw [aUp_n _ _ (by omega), aUp_n _ _ (by omega), aUp_n _ _ (by omega), aUp_n _ _ (by omega), aUp_n _ _ (by omega), aUp_s]
  · rw [aUp_n _ _ (by omega), aUp_n _ _ (by omega), aUp_n _ _ (by omega), aUp_n _ _ (by omega), aUp_s]
  · rw [aUp_n _ _ (by omega), aUp_n _ _ (by omega), aUp_n _ _ (by omega), aUp_s]
  · rw [aUp_n _ _ (by omega), aUp_n _ _ (by omega), aUp_s]
  · rw [aUp_n _ _ (by omega), aUp_s]
  · rw [aUp_s]
theorem addM_0 {q : TyMG} {k dt ag wd ey wo x : Int} (hx : x ≠ q.2.2.2) : (addM q k dt ag wd ey wo).1 (6 * x) = q.1 (6 * x) := by
  have := addM_old (q := q) (k := k) (dt := dt) (ag := ag) (wd := wd) (ey := ey) (wo := wo) (x := x) (s := 0) (by omega) hx
  rw [Int.add_zero] at this
  exact this
theorem addM_rG {G : TyG} {mG : TyMG} {k dt ag wd ey wo : Int} (h : rG G mG) (hok : okGuest k dt ag wd ey wo) (hc : mG.2.2.2 < 32) : rG (addC G k dt ag wd ey wo) (addM mG k dt ag wd ey wo) := by
  obtain ⟨h1, h2, h3, h4, h5, h6, h7, h8⟩ := h
  obtain ⟨g1, g2, g3, g4, g5, g6⟩ := h1
  obtain ⟨o1, o2, o3, o4, o5, o6⟩ := hok
  obtain ⟨n0, n1, n2, n3, n4, n5⟩ := addM_new (q := mG) (k := k) (dt := dt) (ag := ag) (wd := wd) (ey := ey) (wo := wo)
  have hcnt : (addM mG k dt ag wd ey wo).2.2.2 = mG.2.2.2 + 1 := rfl
  have hN : (mG.2.2.2 + 1).toNat = mG.2.2.2.toNat + 1 := by omega
  have hcast : ((mG.2.2.2.toNat : Nat) : Int) = mG.2.2.2 := by omega
  refine ⟨⟨by rw [hcnt]; omega, ?_, fun g z0 z1 => ?_, fun g z0 z1 => ?_, g5, g6⟩, ⟨?_, fun g z0 z1 => ?_, h2.2.2⟩, h3, ?_, ?_, fun g z0 z1 => h6 g (by rw [hcnt] at z0; omega) z1, h7, fun a b z0 z1 z2 z3 => h8 a b (by rw [hcnt] at z0; omega) z1 z2 z3⟩
  · unfold addM
    dsimp only
    exact aUp_P (P := fun z => 0 ≤ z ∧ z ≤ 9999) (aUp_P (P := fun z => 0 ≤ z ∧ z ≤ 9999) (aUp_P (P := fun z => 0 ≤ z ∧ z ≤ 9999) (aUp_P (P := fun z => 0 ≤ z ∧ z ≤ 9999) (aUp_P (P := fun z => 0 ≤ z ∧ z ≤ 9999) (aUp_P (P := fun z => 0 ≤ z ∧ z ≤ 9999) g2 (by omega)) (by omega)) (by omega)) (by omega)) (by omega)) (by omega)
  · by_cases e : g = mG.2.2.2
    · rw [e, n0, n3, n4, n5]; omega
    · rw [addM_0 e, addM_old (by omega) e, addM_old (by omega) e, addM_old (by omega) e]; exact g3 g z0 z1
  · by_cases e : g = mG.2.2.2
    · rw [e, n4]; omega
    · rw [addM_old (by omega) e]; exact g4 g z0 (by rw [hcnt] at z1; omega)
  · show G.2.2.2.2.2.2.2.2.1 + 1 = mG.2.2.2 + 1
    rw [h2.1]
  · unfold addC
    dsimp only
    rw [h2.1]
    by_cases e : g = mG.2.2.2
    · rw [e, n0, n1, n2, n3, n4, n5, aUp_s, aUp_s, aUp_s, aUp_s, aUp_s, aUp_s]
      exact ⟨rfl, rfl, rfl, rfl, rfl, rfl⟩
    · rw [addM_0 e, addM_old (by omega) e, addM_old (by omega) e, addM_old (by omega) e, addM_old (by omega) e, addM_old (by omega) e, aUp_n _ _ e, aUp_n _ _ e, aUp_n _ _ e, aUp_n _ _ e, aUp_n _ _ e, aUp_n _ _ e]
      exact h2.2.1 g z0 z1
  · show G.2.2.2.2.2.2.2.2.2.1 = smN mG.2.1 (mG.2.2.2 + 1).toNat
    rw [hN, smN, hcast, h6 mG.2.2.2 (by omega) hc, h4]
    omega
  · show G.2.2.2.2.2.2.2.2.2.2 = smN (bsM mG) (mG.2.2.2 + 1).toNat
    have e0 : bsM mG mG.2.2.2 = 0 := smN_zero _ (fun b b0 b1 => h8 mG.2.2.2 b (by omega) hc b0 (by omega))
    rw [hN, smN, hcast, e0, h5]
    omega
theorem ahM_congr {mG mG' : TyMG} {mU : TyMU} (hU : kU mU) (hG : kG mG) {a b : Int} (ha : ∀ s, 0 ≤ s → s ≤ 5 → mG'.1 (6 * a + s) = mG.1 (6 * a + s)) (hb : ∀ s, 0 ≤ s → s ≤ 5 → mG'.1 (6 * b + s) = mG.1 (6 * b + s)) (h0 : 0 ≤ lnM mG mU a ∧ lnM mG mU a < mU.2.2.2) : ahM mG mU a b ↔ ahM mG' mU a b := by
  have ea : lnM mG' mU a = lnM mG mU a := by
    have := ha 0 (by omega) (by omega)
    rw [Int.add_zero] at this
    unfold lnM
    rw [this]
  have eb : lnM mG' mU b = lnM mG mU b := by
    have := hb 0 (by omega) (by omega)
    rw [Int.add_zero] at this
    unfold lnM
    rw [this]
  unfold ahM
  rw [ea, eb]
  have hk := ahd_congr (c := keyC mG mU (lnM mG mU a) a b) (c' := keyC mG' mU (lnM mG mU a) a b) (fin := a < b) (mU.2.1 (lnM mG mU a)).toNat 0 0 (fun i i0 i1 => by
    have hs := (hU.2.2.2 (lnM mG mU a) i h0.1 h0.2 i0 (by omega)).1
    unfold keyC
    rw [show (0 : Int) + i = i from by omega, ha _ (by omega) (by omega), hb _ (by omega) (by omega)])
  rw [hk]
theorem inM_ln {mG : TyMG} {mU : TyMU} (hG : kG mG) (hU : kU mU) {g : Int} (h : inM mG mU g) : 0 ≤ lnM mG mU g ∧ lnM mG mU g < mU.2.2.2 := by
  have h1 := hG.2.1 (6 * g)
  have h2 := hG.2.2.1 g h.1.1 (by have := h.1.2; have := hG.1; omega)
  have h3 := hU.2.1 (mG.1 (6 * g)) (by omega) (by omega)
  have h4 := h.2.2
  unfold lnM at *
  omega
theorem add_ord {G : TyG} {mG : TyMG} {mU : TyMU} {O : TyO} {k dt ag wd ey wo : Int} (hG : rG G mG) (hU : kU mU) (hc : mG.2.2.2 < 32) (hO : ordI (ahM mG mU) (inM mG mU) O.1 O.2) : ordI (ahM (addM mG k dt ag wd ey wo) mU) (inM mG mU) O.1 O.2 ∧ (∀ x, inM (addM mG k dt ag wd ey wo) mU x ↔ inM mG mU x ∨ (x = mG.2.2.2 ∧ ¬ lnM (addM mG k dt ag wd ey wo) mU x = -1)) := by
  have hcnt : (addM mG k dt ag wd ey wo).2.2.2 = mG.2.2.2 + 1 := rfl
  have haw : (addM mG k dt ag wd ey wo).2.1 = mG.2.1 := rfl
  have hold : ∀ x, x < mG.2.2.2 → lnM (addM mG k dt ag wd ey wo) mU x = lnM mG mU x := by
    intro x hx
    unfold lnM
    rw [addM_0 (by omega)]
  have h0 := hG.1.1
  refine ⟨ordI_congr hO (fun x => Iff.rfl) (fun a b ha hb => ?_) (fun _ _ _ => rfl), fun x => ?_⟩
  · exact ahM_congr hU hG.1 (fun s s0 s1 => addM_old ⟨s0, s1⟩ (by have := ha.1.2; omega)) (fun s s0 s1 => addM_old ⟨s0, s1⟩ (by have := hb.1.2; omega)) (inM_ln hG.1 hU ha)
  · unfold inM
    rw [hcnt, haw]
    constructor
    · rintro ⟨a1, a2, a3⟩
      by_cases e : x = mG.2.2.2
      · exact Or.inr ⟨e, a3⟩
      · refine Or.inl ⟨⟨a1.1, by omega⟩, a2, ?_⟩
        rw [← hold x (by omega)]
        exact a3
    · rintro (⟨a1, a2, a3⟩ | ⟨a1, a2⟩)
      · refine ⟨⟨a1.1, by omega⟩, a2, ?_⟩
        rw [hold x a1.2]
        exact a3
      · refine ⟨⟨by omega, by omega⟩, ?_, a2⟩
        rw [a1]
        exact hG.2.2.2.2.2.1 _ (by omega) hc
theorem J_guest0 {X : AX} (ss : Nat) (T : TyT) (G : TyG) (L : TyL) (O : TyO) (R : TyR) (P : TyP) (C : TyC) (B D : TyB) (S N : TyS) (β : List TyBn) (mT : TyT) (mG : TyMG) (mR : TyMR) (mU : TyMU) (mP : TyMP) (mO : TyO) (mS : TyMS) (mN : TyMN) (h : RR 0 ss T G L O R C B D S N β mT mG mR mU mP mS mN) (k dt ag wd ey wo : Int) (hk : inR k) (hd : inR dt) (ha : inR ag) (hw : inR wd) (he : inR ey) (ho : inR wo) : JS X 0 0 80 105 [iv k, iv dt, iv ag, iv wd, iv ey, iv wo] (CV (CA 0 ss T G L O R P C B D S N) (MV (MA mT mG mR mU mP mO mS mN) (BH 73 β))) (MA mT mG mR mU mP mO mS mN) := by
  have h0 := h
  obtain ⟨hsb, hss, hT, hG, hH, hF, hO, hf, hU, hB, hS, hN, hX⟩ := h
  have hB' : rB B mU := hB
  have hc0 := hG.1.1
  have hcc := hG.2.1.1
  obtain ⟨e1, e2, e3, e4⟩ := rO_eq (mO := mO) hG.1 hO
  have hO0 := hO.1
  have hnew : okGuest k dt ag wd ey wo ∧ mG.2.2.2 < 32 → ∀ O' : TyO, ordI (ahM (addM mG k dt ag wd ey wo) mU) (inM (addM mG k dt ag wd ey wo) mU) O'.1 O'.2 → RR 0 ss T (addC G k dt ag wd ey wo) L O' R C B D S N β mT (addM mG k dt ag wd ey wo) mR mU mP mS mN := by
    intro q O' hO'
    have hm : mG.2.2.2 ≤ (addM mG k dt ag wd ey wo).2.2.2 := by
      show mG.2.2.2 ≤ mG.2.2.2 + 1
      omega
    exact ⟨hsb, hss, hT, addM_rG hG q.1 q.2, hH, hF, hO', hf, hU, hB, rS_mono (Int.le_refl _) hm (fun g hg => addM_old (by omega) (by have := hg.2.2.1; have := hS.2.2.2.2.1; omega)) hS, rN_mono hm hN, hX⟩
  refine c_guest0 6 ss T G L O R P C B D S N (MV (MA mT mG mR mU mP mO mS mN) (BH 73 β)) k dt ag wd ey wo (addM mG k dt ag wd ey wo) mU hk hd ha hw he ho (by omega) hU hB' (fun q => ?_) (fun q => ?_) (fun q ql => ?_) (fun q ql => ?_)
  · have hr := addM_rG hG q.1 (by omega)
    refine ⟨hr.1, hr.2.1, by omega, fun i i0 i1 => ?_⟩
    have h4 := e4 i i0 i1
    refine ⟨by omega, ?_⟩
    unfold lnM
    rw [addM_0 (by omega)]
    exact h4.2.2.2
  · refine ⟨-1, CA 0 ss T G L O R P C B D S N, BH 73 β, inR_c (by omega), rfl, rfl, ?_⟩
    exact m_guest 9 (CA 0 ss T G L O R P C B D S N) mT mG mR mU mP mO mS mN (BH 73 β) k dt ag wd ey wo hk hd ha hw he ho hc0 (fun _ => ⟨rfl, Inv_mk 0 ss T G L O R P C B D S N β mT mG mR mU mP mO mS mN h0⟩) (fun z => absurd ⟨z.1, by omega⟩ q)
  · have q' : okGuest k dt ag wd ey wo ∧ mG.2.2.2 < 32 := ⟨q.1, by omega⟩
    obtain ⟨a1, a2⟩ := add_ord (k := k) (dt := dt) (ag := ag) (wd := wd) (ey := ey) (wo := wo) hG hU q'.2 hO
    rw [hcc] at ql
    refine ⟨_, CA 0 ss T (addC G k dt ag wd ey wo) L O R P C B D S N, BH 73 β, inR_c (by omega), rfl, rfl, ?_⟩
    refine m_guest 9 _ mT mG mR mU mP mO mS mN (BH 73 β) k dt ag wd ey wo hk hd ha hw he ho hc0 (fun z => absurd q' z) (fun _ => ⟨by rw [hcc]; congr 2; omega, Inv_mk 0 ss T (addC G k dt ag wd ey wo) L O R P C B D S N β mT (addM mG k dt ag wd ey wo) mR mU mP mO mS mN (hnew q' O ?_)⟩)
    refine ordI_congr a1 (fun x => ?_) (fun _ _ _ _ => Iff.rfl) (fun _ _ _ => rfl)
    rw [a2 x]
    exact ⟨Or.inl, fun z => by
      rcases z with z | z
      · exact z
      · exact absurd (by rw [z.1]; exact ql) z.2⟩
  · have q' : okGuest k dt ag wd ey wo ∧ mG.2.2.2 < 32 := ⟨q.1, by omega⟩
    obtain ⟨a1, a2⟩ := add_ord (k := k) (dt := dt) (ag := ag) (wd := wd) (ey := ey) (wo := wo) hG hU q'.2 hO
    rw [hcc] at ql
    refine ⟨_, CA 0 ss T (addC G k dt ag wd ey wo) L (insF (ahM (addM mG k dt ag wd ey wo) mU) G.2.2.2.2.2.2.2.2.1 O.2.toNat O.1, O.2 + 1) R P C B D S N, BH 73 β, inR_c (by omega), rfl, rfl, ?_⟩
    refine m_guest 9 _ mT mG mR mU mP mO mS mN (BH 73 β) k dt ag wd ey wo hk hd ha hw he ho hc0 (fun z => absurd q' z) (fun _ => ⟨by rw [hcc]; congr 2; omega, Inv_mk 0 ss T (addC G k dt ag wd ey wo) L (insF (ahM (addM mG k dt ag wd ey wo) mU) G.2.2.2.2.2.2.2.2.1 O.2.toNat O.1, O.2 + 1) R P C B D S N β mT (addM mG k dt ag wd ey wo) mR mU mP mO mS mN (hnew q' _ ?_)⟩)
    refine ordI_ins (ahM_sto _ _) a1 (fun z => by have := z.1.2; omega) (fun x => ?_)
    rw [a2 x, hcc]
    exact ⟨fun z => by
      rcases z with z | z
      · exact Or.inl z
      · exact Or.inr z.1, fun z => by
      rcases z with z | z
      · exact Or.inl z
      · exact Or.inr ⟨z, by rw [z]; exact ql⟩⟩
theorem J_guest1 {X : AX} (ss : Nat) (T : TyT) (G : TyG) (L : TyL) (O : TyO) (R : TyR) (P : TyP) (C : TyC) (B D : TyB) (S N : TyS) (β : List TyBn) (mT : TyT) (mG : TyMG) (mR : TyMR) (mU : TyMU) (mP : TyMP) (mO : TyO) (mS : TyMS) (mN : TyMN) (h : RR 1 ss T G L O R C B D S N β mT mG mR mU mP mS mN) (k dt ag wd ey wo : Int) (hk : inR k) (hd : inR dt) (ha : inR ag) (hw : inR wd) (he : inR ey) (ho : inR wo) : JS X 0 0 80 105 [iv k, iv dt, iv ag, iv wd, iv ey, iv wo] (CV (CA 1 ss T G L O R P C B D S N) (MV (MA mT mG mR mU mP mO mS mN) (BH 73 β))) (MA mT mG mR mU mP mO mS mN) := by
  have h0 := h
  obtain ⟨hsb, hss, hT, hG, hH, hF, hO, hf, hU, hB, hS, hN, hX⟩ := h
  have hB' : rB D mU := hB
  have hc0 := hG.1.1
  have hcc := hG.2.1.1
  obtain ⟨e1, e2, e3, e4⟩ := rO_eq (mO := mO) hG.1 hO
  have hO0 := hO.1
  have hnew : okGuest k dt ag wd ey wo ∧ mG.2.2.2 < 32 → ∀ O' : TyO, ordI (ahM (addM mG k dt ag wd ey wo) mU) (inM (addM mG k dt ag wd ey wo) mU) O'.1 O'.2 → RR 1 ss T (addC G k dt ag wd ey wo) L O' R C B D S N β mT (addM mG k dt ag wd ey wo) mR mU mP mS mN := by
    intro q O' hO'
    have hm : mG.2.2.2 ≤ (addM mG k dt ag wd ey wo).2.2.2 := by
      show mG.2.2.2 ≤ mG.2.2.2 + 1
      omega
    exact ⟨hsb, hss, hT, addM_rG hG q.1 q.2, hH, hF, hO', hf, hU, hB, rS_mono (Int.le_refl _) hm (fun g hg => addM_old (by omega) (by have := hg.2.2.1; have := hS.2.2.2.2.1; omega)) hS, rN_mono hm hN, hX⟩
  refine c_guest1 6 ss T G L O R P C B D S N (MV (MA mT mG mR mU mP mO mS mN) (BH 73 β)) k dt ag wd ey wo (addM mG k dt ag wd ey wo) mU hk hd ha hw he ho (by omega) hU hB' (fun q => ?_) (fun q => ?_) (fun q ql => ?_) (fun q ql => ?_)
  · have hr := addM_rG hG q.1 (by omega)
    refine ⟨hr.1, hr.2.1, by omega, fun i i0 i1 => ?_⟩
    have h4 := e4 i i0 i1
    refine ⟨by omega, ?_⟩
    unfold lnM
    rw [addM_0 (by omega)]
    exact h4.2.2.2
  · refine ⟨-1, CA 1 ss T G L O R P C B D S N, BH 73 β, inR_c (by omega), rfl, rfl, ?_⟩
    exact m_guest 9 (CA 1 ss T G L O R P C B D S N) mT mG mR mU mP mO mS mN (BH 73 β) k dt ag wd ey wo hk hd ha hw he ho hc0 (fun _ => ⟨rfl, Inv_mk 1 ss T G L O R P C B D S N β mT mG mR mU mP mO mS mN h0⟩) (fun z => absurd ⟨z.1, by omega⟩ q)
  · have q' : okGuest k dt ag wd ey wo ∧ mG.2.2.2 < 32 := ⟨q.1, by omega⟩
    obtain ⟨a1, a2⟩ := add_ord (k := k) (dt := dt) (ag := ag) (wd := wd) (ey := ey) (wo := wo) hG hU q'.2 hO
    rw [hcc] at ql
    refine ⟨_, CA 1 ss T (addC G k dt ag wd ey wo) L O R P C B D S N, BH 73 β, inR_c (by omega), rfl, rfl, ?_⟩
    refine m_guest 9 _ mT mG mR mU mP mO mS mN (BH 73 β) k dt ag wd ey wo hk hd ha hw he ho hc0 (fun z => absurd q' z) (fun _ => ⟨by rw [hcc]; congr 2; omega, Inv_mk 1 ss T (addC G k dt ag wd ey wo) L O R P C B D S N β mT (addM mG k dt ag wd ey wo) mR mU mP mO mS mN (hnew q' O ?_)⟩)
    refine ordI_congr a1 (fun x => ?_) (fun _ _ _ _ => Iff.rfl) (fun _ _ _ => rfl)
    rw [a2 x]
    exact ⟨Or.inl, fun z => by
      rcases z with z | z
      · exact z
      · exact absurd (by rw [z.1]; exact ql) z.2⟩
  · have q' : okGuest k dt ag wd ey wo ∧ mG.2.2.2 < 32 := ⟨q.1, by omega⟩
    obtain ⟨a1, a2⟩ := add_ord (k := k) (dt := dt) (ag := ag) (wd := wd) (ey := ey) (wo := wo) hG hU q'.2 hO
    rw [hcc] at ql
    refine ⟨_, CA 1 ss T (addC G k dt ag wd ey wo) L (insF (ahM (addM mG k dt ag wd ey wo) mU) G.2.2.2.2.2.2.2.2.1 O.2.toNat O.1, O.2 + 1) R P C B D S N, BH 73 β, inR_c (by omega), rfl, rfl, ?_⟩
    refine m_guest 9 _ mT mG mR mU mP mO mS mN (BH 73 β) k dt ag wd ey wo hk hd ha hw he ho hc0 (fun z => absurd q' z) (fun _ => ⟨by rw [hcc]; congr 2; omega, Inv_mk 1 ss T (addC G k dt ag wd ey wo) L (insF (ahM (addM mG k dt ag wd ey wo) mU) G.2.2.2.2.2.2.2.2.1 O.2.toNat O.1, O.2 + 1) R P C B D S N β mT (addM mG k dt ag wd ey wo) mR mU mP mO mS mN (hnew q' _ ?_)⟩)
    refine ordI_ins (ahM_sto _ _) a1 (fun z => by have := z.1.2; omega) (fun x => ?_)
    rw [a2 x, hcc]
    exact ⟨fun z => by
      rcases z with z | z
      · exact Or.inl z
      · exact Or.inr z.1, fun z => by
      rcases z with z | z
      · exact Or.inl z
      · exact Or.inr ⟨z, by rw [z]; exact ql⟩⟩

theorem hid_eq {G : TyG} {mG : TyMG} {S : TyS} {mS : TyMS} {mR : TyMR} (hG : rG G mG) (hS : rS S mS mG mR.2.2.2.1) (hR : kR mR) {h g : Int} (hh : satM mS h) (hg : satM mS g) (high : Int) : hidM mG mR mS h g high ↔ (bfC S G h g ∧ high < clC mR S G h g) := by
  have e1 := rS_sat hS hh
  have e2 := rS_sat hS hg
  have hgt := hS.1.2.2.2
  have r1 := hS.1.1 h
  have r2 := hS.1.1 g
  have r3 := hS.2.2.2.2.2.2.1 g hg
  have r4 := hS.2.2.1
  have v1 := hG.2.1.2.1 h hh.2.1 (by have := hh.2.2.1; omega)
  have v2 := hG.2.1.2.1 g hg.2.1 (by have := hg.2.2.1; omega)
  have w1 := v1.2.2.2.2.1
  have w2 := v2.2.2.2.2.1
  have y1 := v1.2.2.2.2.2
  have y2 := v2.2.2.2.2.2
  unfold hidM bfC
  constructor
  · rintro ⟨_, a2, a3, a4, a5⟩
    have hd := far_lt' hR r1.1 a2 (by omega)
    refine ⟨⟨by omega, by omega, by omega⟩, (clC_lt (by rw [e1.1, e2.1]; omega) high).mpr ?_⟩
    rw [e1.1, e2.1, y1, y2]
    exact a5
  · rintro ⟨⟨b1, b2, b3⟩, b4⟩
    have hd := far_lt' hR r1.1 (show mS.1 h < mS.1 g from by omega) (by omega)
    have b5 := (clC_lt (by rw [e1.1, e2.1]; omega) high).mp b4
    rw [e1.1, e2.1, y1, y2] at b5
    exact ⟨hh, by omega, by omega, by omega, b5⟩
theorem hc_eq {G : TyG} {mG : TyMG} {S : TyS} {mS : TyMS} {mR : TyMR} (hG : rG G mG) (hS : rS S mS mG mR.2.2.2.1) (hR : kR mR) {g : Int} (hg : satM mS g) (high : Int) : hcM mG mR mS g high mS.2.2.2.2.2.2.2.2.toNat = smN (fun i => bI (bfC S G (S.2.2.1 i) g ∧ high < clC mR S G (S.2.2.1 i) g)) S.2.2.2.1.toNat := by
  have hl := hS.2.2.2.2.2.2.2.1
  have hm := hl.1
  have e := rLn_sum hG.1 hS.2.2.2.2.1 hl (fun h => bI (hidM mG mR mS h g high))
  have e2 : hcM mG mR mS g high mS.2.2.2.2.2.2.2.2.toNat = smN (fun h => cif (satM mS h) (bI (hidM mG mR mS h g high)) 0) mS.2.2.2.2.2.2.2.2.toNat := by
    unfold hcM
    refine smN_congr _ (fun k _ _ => ?_)
    by_cases c : satM mS k
    · rw [cif_t c]
    · rw [cif_f c, bI_f (fun z => c z.1)]
  rw [e2, ← e]
  exact smN_congr _ (fun k k0 k1 => bI_congr (hid_eq hG hS hR (hl.2.2.1 k k0 (by omega)) hg high))
theorem smN_eq0 {p : Int → Prop} : ∀ (n : Nat), smN (fun i => bI (p i)) n = 0 ↔ ∀ i : Nat, i < n → ¬ p i := by
  intro n
  induction n with
  | zero => exact ⟨fun _ i hi => by omega, fun _ => rfl⟩
  | succ n ih =>
    rw [smN]
    have h01 := smN_01 (e := fun i => bI (p i)) (fun _ => bI_r _) n
    have hb := bI_r (p n)
    constructor
    · intro h i hi
      by_cases e : i = n
      · rw [e]
        exact bI_e0 (by omega)
      · exact ih.mp (by omega) i (by omega)
    · intro h
      rw [ih.mpr (fun i hi => h i (by omega)), bI_f (h n (by omega))]
      rfl
theorem smN_cut {p : Int → Prop} {i : Nat} : ∀ (n : Nat), smN (fun j => bI (p j ∧ j < (i : Int))) n = smN (fun j => bI (p j)) (min i n) := by
  intro n
  induction n with
  | zero => rw [Nat.min_zero]; rfl
  | succ n ih =>
    rw [smN, ih]
    by_cases h : n < i
    · rw [show min i (n + 1) = n + 1 from by omega, show min i n = n from by omega, smN]
      rw [bI_congr (show (p n ∧ (n : Int) < i) ↔ p n from ⟨fun k => k.1, fun k => ⟨k, by omega⟩⟩)]
    · rw [show min i (n + 1) = min i n from by omega, bI_f (fun k => by have := k.2; omega)]
      omega
theorem smN_up {p : Int → Prop} : ∀ (i j : Nat), i < j → p i → smN (fun k => bI (p k)) i + 1 ≤ smN (fun k => bI (p k)) j := by
  intro i j hij hp
  induction j with
  | zero => omega
  | succ j ih =>
    rw [smN]
    have hb := bI_r (p j)
    by_cases e : i = j
    · subst e
      rw [bI_t hp]
      omega
    · have := ih (by omega)
      omega
theorem ah_eq {G : TyG} {mG : TyMG} {S : TyS} {mS : TyMS} {mR : TyMR} (hG : rG G mG) (hS : rS S mS mG mR.2.2.2.1) (hR : kR mR) {g : Int} (hg : satM mS g) {i : Nat} (hi : (i : Int) < S.2.2.2.1) : ahC mG mR mS g (S.2.2.1 i) mS.2.2.2.2.2.2.2.2.toNat = smN (fun j => bI (hdC mR S G (S.2.2.1 j) g)) i := by
  have hl := hS.2.2.2.2.2.2.2.1
  have hm := hl.1
  have e := rLn_sum hG.1 hS.2.2.2.2.1 hl (fun h => bI (hidM mG mR mS h g mR.2.2.2.2.1 ∧ lexM mS h (S.2.2.1 i)))
  have e2 : ahC mG mR mS g (S.2.2.1 i) mS.2.2.2.2.2.2.2.2.toNat = smN (fun h => cif (satM mS h) (bI (hidM mG mR mS h g mR.2.2.2.2.1 ∧ lexM mS h (S.2.2.1 i))) 0) mS.2.2.2.2.2.2.2.2.toNat := by
    unfold ahC
    refine smN_congr _ (fun k _ _ => ?_)
    by_cases c : satM mS k
    · rw [cif_t c]
    · rw [cif_f c, bI_f (fun z => c z.1.1)]
  rw [e2, ← e]
  have e3 := smN_cut (p := fun j => hdC mR S G (S.2.2.1 j) g) (i := i) S.2.2.2.1.toNat
  rw [show min i S.2.2.2.1.toNat = i from by omega] at e3
  rw [← e3]
  refine smN_congr _ (fun k k0 k1 => bI_congr ?_)
  have q1 := hid_eq hG hS hR (hl.2.2.1 k k0 (by omega)) hg mR.2.2.2.2.1
  have q2 := rLn_lex hG.1 hS.2.2.2.2.1 hl (i := k) (j := i) ⟨k0, by omega⟩ ⟨by omega, hi⟩
  exact ⟨fun z => ⟨q1.mp z.1, q2.mp z.2⟩, fun z => ⟨q1.mpr z.1, q2.mpr z.2⟩⟩
theorem lstG_no {p : Int → Prop} : ∀ (k : Nat), (∀ g, 0 ≤ g → g < (k : Int) → ¬ p g) → lstG p k = -1 := by
  intro k
  induction k with
  | zero => intro _; rfl
  | succ k ih =>
    intro h
    rw [lstG, cif_f (h k (by omega) (by push_cast; omega))]
    exact ih (fun g g0 g1 => h g g0 (by push_cast; omega))
theorem lstG_at {p : Int → Prop} {x : Int} (hx : p x) (h0 : 0 ≤ x) (hu : ∀ g, p g → g = x) : ∀ (k : Nat), x < (k : Int) → lstG p k = x := by
  intro k
  induction k with
  | zero => intro h; push_cast at h; omega
  | succ k ih =>
    intro h
    rw [lstG]
    by_cases c : p k
    · rw [cif_t c]; exact hu _ c
    · rw [cif_f c]
      have : x ≠ k := fun q => c (q ▸ hx)
      exact ih (by push_cast at h; omega)
theorem smN_const : ∀ (n : Nat), smN (fun _ => 1) n = n := by
  intro n
  induction n with
  | zero => rfl
  | succ n ih => rw [smN, ih]; push_cast; omega
theorem cnt_eq {mG : TyMG} {S : TyS} {mS : TyMS} {rows : Int} (hG : kG mG) (hS : rS S mS mG rows) : smN (fun g => bI (satM mS g)) mS.2.2.2.2.2.2.2.2.toNat = S.2.2.2.1 := by
  have hl := hS.2.2.2.2.2.2.2.1
  have hm := hl.1
  have e := rLn_sum hG hS.2.2.2.2.1 hl (fun _ => 1)
  rw [smN_const] at e
  have e2 : smN (fun g => bI (satM mS g)) mS.2.2.2.2.2.2.2.2.toNat = smN (fun g => cif (satM mS g) 1 0) mS.2.2.2.2.2.2.2.2.toNat := rfl
  rw [e2, ← e]
  omega
theorem J_at0 {X : AX} (sb : Nat) (T : TyT) (G : TyG) (L : TyL) (O : TyO) (R : TyR) (P : TyP) (C : TyC) (B D : TyB) (S N : TyS) (β : List TyBn) (mT : TyT) (mG : TyMG) (mR : TyMR) (mU : TyMU) (mP : TyMP) (mO : TyO) (mS : TyMS) (mN : TyMN) (h : RR sb 0 T G L O R C B D S N β mT mG mR mU mP mS mN) (row place : Int) (hr : inR row) (hpp : inR place) : JS X 0 0 92 136 [iv row, iv place] (CV (CA sb 0 T G L O R P C B D S N) (MV (MA mT mG mR mU mP mO mS mN) (BH 73 β))) (MA mT mG mR mU mP mO mS mN) := by
  have h0 := h
  obtain ⟨hsb, hss, hT, hG, hH, hF, hO, hf, hU, hB, hS, hN, hX⟩ := h
  have hS' : rS S mS mG mR.2.2.2.1 := hS
  obtain ⟨k1, k2, k3⟩ := rS_k hS' hH.2.2.2.2.2.2.2.1
  have hl := hS'.2.2.2.2.2.2.2.1
  have hgt := hS'.1.2.2.2
  have hm := hl.1
  have key : ∀ g, satM mS g → (atC S G row place g ↔ atM mG mS row place g) := by
    intro g hg
    have e := rS_sat hS' hg
    have v := (hG.2.1.2.1 g hg.2.1 (by have := hg.2.2.1; omega)).2.2.2.2.1
    unfold atC atM
    constructor
    · intro z
      exact ⟨hg, by omega, by omega, by omega⟩
    · intro z
      have := z.2
      omega
  refine c_at0 7 sb T G L O R P C B D S N (MV (MA mT mG mR mU mP mO mS mN) (BH 73 β)) row place hr hpp k1 (rG_kW hG) (fun q => ?_) (fun i i0 i1 q => ?_)
  · refine ⟨-1, CA sb 0 T G L O R P C B D S N, BH 73 β, inR_c (by omega), rfl, rfl, ?_⟩
    refine aw_post (m_at 8 (CA sb 0 T G L O R P C B D S N) mT mG mR mU mP mO mS mN (BH 73 β) row place hr hpp hS'.1 hG.1) (fun r h' e => ?_)
    obtain ⟨rfl, rfl⟩ := e
    refine ⟨?_, Inv_mk sb 0 T G L O R P C B D S N β mT mG mR mU mP mO mS mN h0⟩
    rw [lstG_no]
    intro g _ _ hp
    obtain ⟨i, i0, i1, i2⟩ := hl.2.2.2 g hp.1
    refine q i i0 i1 ?_
    rw [i2]
    exact (key g hp.1).mpr hp
  · have hs := hl.2.2.1 i i0 i1
    have hp := (key _ hs).mp q
    have hlr := k1.2.1 i i0 i1
    refine ⟨_, CA sb 0 T G L O R P C B D S N, BH 73 β, inR_c (by omega), rfl, rfl, ?_⟩
    refine aw_post (m_at 8 (CA sb 0 T G L O R P C B D S N) mT mG mR mU mP mO mS mN (BH 73 β) row place hr hpp hS'.1 hG.1) (fun r h' e => ?_)
    obtain ⟨rfl, rfl⟩ := e
    refine ⟨?_, Inv_mk sb 0 T G L O R P C B D S N β mT mG mR mU mP mO mS mN h0⟩
    rw [lstG_at hp hlr.1 (fun g hg => ?_) _ (by have := hs.2.2.1; omega)]
    obtain ⟨j, j0, j1, j2⟩ := hl.2.2.2 g hg.1
    have a1 := hp.2
    have a2 := hg.2
    rw [← j2] at a2
    rw [← j2]
    rcases Int.lt_trichotomy i j with z | z | z
    · exfalso
      have hb := hl.2.1 i j i0 z j1
      unfold bef at hb
      omega
    · rw [z]
    · exfalso
      have hb := hl.2.1 j i j0 z i1
      unfold bef at hb
      omega
theorem J_spare0 {X : AX} (sb : Nat) (T : TyT) (G : TyG) (L : TyL) (O : TyO) (R : TyR) (P : TyP) (C : TyC) (B D : TyB) (S N : TyS) (β : List TyBn) (mT : TyT) (mG : TyMG) (mR : TyMR) (mU : TyMU) (mP : TyMP) (mO : TyO) (mS : TyMS) (mN : TyMN) (h : RR sb 0 T G L O R C B D S N β mT mG mR mU mP mS mN) (row : Int) (hr : inR row) : JS X 0 0 93 137 [iv row] (CV (CA sb 0 T G L O R P C B D S N) (MV (MA mT mG mR mU mP mO mS mN) (BH 73 β))) (MA mT mG mR mU mP mO mS mN) := by
  have h0 := h
  obtain ⟨hsb, hss, hT, hG, hH, hF, hO, hf, hU, hB, hS, hN, hX⟩ := h
  have hS' : rS S mS mG mR.2.2.2.1 := hS
  obtain ⟨k1, k2, k3⟩ := rS_k hS' hH.2.2.2.2.2.2.2.1
  have hl := hS'.2.2.2.2.2.2.2.1
  have hgt := hS'.1.2.2.2
  have hm := hl.1
  have hr6 := hH.2.2.2.2.2.2.2.1
  have hs3 := hS'.2.2.1
  have hs9 := hS'.2.2.2.2.2.2.2.2
  have hsd := hS'.1.2.2.1
  refine c_spare0 7 sb T G L O R P C B D S N (MA mT mG mR mU mP mO mS mN) β row hr k1 (rG_kW hG) (by rw [hH.1]; exact hr6) hH.2.1 (by rw [hH.1]; exact hH.2.2.1) (by rw [hH.1, hs3.1]; exact hs3.2) (fun q => ?_) (fun r x e q hx => ?_)
  · refine ⟨-1, CA sb 0 T G L O R P C B D S N, BH 73 β, inR_c (by omega), rfl, rfl, ?_⟩
    refine m_spare 8 (CA sb 0 T G L O R P C B D S N) mT mG mR mU mP mO mS mN (BH 73 β) row hr hS'.1 hG.1 (by omega) (fun _ => ⟨rfl, Inv_mk sb 0 T G L O R P C B D S N β mT mG mR mU mP mO mS mN h0⟩) (fun k => ?_)
    exfalso
    omega
  · obtain ⟨x1, x2, x3, x4⟩ := hH.2.2.2.1 r x hx
    have hrr := hH.2.2.2.2.2.2.2.2.1 r (by omega) (by omega)
    have hpt := ptC_r (row := row) k1 (rG_kW hG) S.2.2.2.1.toNat (by omega)
    have e2 : smN (ptC S G row) S.2.2.2.1.toNat = smN (spM mG mS row) mS.2.2.2.2.2.2.2.2.toNat := by
      have e := rLn_sum hG.1 hS'.2.2.2.2.1 hl (fun g => cif (mS.1 g = row) (mG.1 (6 * g + 4)) 0)
      rw [smN_congr (e := spM mG mS row) (e' := fun g => cif (satM mS g) (cif (mS.1 g = row) (mG.1 (6 * g + 4)) 0) 0) _ (fun k _ _ => ?_), ← e]
      · refine smN_congr _ (fun k z0 z1 => ?_)
        have hs := hl.2.2.1 k z0 (by omega)
        have ee := rS_sat hS' hs
        have v := (hG.2.1.2.1 _ hs.2.1 (by have := hs.2.2.1; omega)).2.2.2.2.1
        unfold ptC
        rw [ee.1, v]
      · unfold spM
        by_cases c : satM mS k
        · rw [cif_t c]
          by_cases c2 : mS.1 k = row
          · rw [cif_t c2, cif_t ⟨c, c2⟩]
          · rw [cif_f c2, cif_f (fun z => c2 z.2)]
        · rw [cif_f c, cif_f (fun z => c z.1)]
    refine ⟨_, CA sb 0 T G L O R P C B D S N, BH 73 β, inR_c (by omega), rfl, rfl, ?_⟩
    refine m_spare 8 (CA sb 0 T G L O R P C B D S N) mT mG mR mU mP mO mS mN (BH 73 β) row hr hS'.1 hG.1 (by omega) (fun k => ?_) (fun k => ⟨?_, Inv_mk sb 0 T G L O R P C B D S N β mT mG mR mU mP mO mS mN h0⟩)
    · exfalso
      omega
    · rw [x2, e2, e]
theorem J_hidden0 {X : AX} (sb : Nat) (T : TyT) (G : TyG) (L : TyL) (O : TyO) (R : TyR) (P : TyP) (C : TyC) (B D : TyB) (S N : TyS) (β : List TyBn) (mT : TyT) (mG : TyMG) (mR : TyMR) (mU : TyMU) (mP : TyMP) (mO : TyO) (mS : TyMS) (mN : TyMN) (h : RR sb 0 T G L O R C B D S N β mT mG mR mU mP mS mN) (g : Int) (hg : inR g) : JS X 0 0 94 139 [iv g] (CV (CA sb 0 T G L O R P C B D S N) (MV (MA mT mG mR mU mP mO mS mN) (BH 73 β))) (MA mT mG mR mU mP mO mS mN) := by
  have h0 := h
  obtain ⟨hsb, hss, hT, hG, hH, hF, hO, hf, hU, hB, hS, hN, hX⟩ := h
  have hS' : rS S mS mG mR.2.2.2.1 := hS
  have hR := hH.2.2.2.2.2.2.2
  obtain ⟨k1, k2, k3⟩ := rS_k hS' hR.1
  have hgr : inR (S.1 g) := by
    by_cases c : 0 ≤ g ∧ g < 32
    · have := k1.2.2 g c.1 c.2
      exact inR_c (by omega)
    · have := hX g c
      exact inR_c (by omega)
  have hm := k1.1
  have hrs := rS_se hS' g
  refine aw_post (c_hidden0 4 sb T G L O R P C B D S N (MA mT mG mR mU mP mO mS mN) β mR g hg hgr k1 (rG_kW hG) hH k2 k3) (fun r h' e => ?_)
  obtain ⟨rfl, rfl⟩ := e
  have h01 := smN_01 (e := fun i => bI (hdC mR S G (S.2.2.1 i) g)) (fun _ => bI_r _) S.2.2.2.1.toNat
  refine ⟨_, CA sb 0 T G L O R P C B D S N, BH 73 β, cif_ind (P := inR) (fun _ => inR_c (by omega)) (fun _ => inR_c (by omega)), rfl, rfl, ?_⟩
  refine aw_post (m_hidden 7 (CA sb 0 T G L O R P C B D S N) mT mG mR mU mP mO mS mN (BH 73 β) g hg hR.2.2.2.1 hS'.1 hG.1 hF) (fun r h' e => ?_)
  obtain ⟨rfl, rfl⟩ := e
  refine ⟨?_, Inv_mk sb 0 T G L O R P C B D S N β mT mG mR mU mP mO mS mN h0⟩
  by_cases c : satM mS g
  · rw [cif_t c, cif_t (hrs.mpr c), hc_eq hG hS' hR c]
    rfl
  · rw [cif_f c, cif_f (fun z => c (hrs.mp z))]
theorem J_hider0 {X : AX} (sb : Nat) (T : TyT) (G : TyG) (L : TyL) (O : TyO) (R : TyR) (P : TyP) (C : TyC) (B D : TyB) (S N : TyS) (β : List TyBn) (mT : TyT) (mG : TyMG) (mR : TyMR) (mU : TyMU) (mP : TyMP) (mO : TyO) (mS : TyMS) (mN : TyMN) (h : RR sb 0 T G L O R C B D S N β mT mG mR mU mP mS mN) (g kk : Int) (hg : inR g) (hkk : inR kk) : JS X 0 0 95 140 [iv g, iv kk] (CV (CA sb 0 T G L O R P C B D S N) (MV (MA mT mG mR mU mP mO mS mN) (BH 73 β))) (MA mT mG mR mU mP mO mS mN) := by
  have h0 := h
  obtain ⟨hsb, hss, hT, hG, hH, hF, hO, hf, hU, hB, hS, hN, hX⟩ := h
  have hS' : rS S mS mG mR.2.2.2.1 := hS
  have hR := hH.2.2.2.2.2.2.2
  obtain ⟨k1, k2, k3⟩ := rS_k hS' hR.1
  have hl := hS'.2.2.2.2.2.2.2.1
  have hgr : inR (S.1 g) := by
    by_cases c : 0 ≤ g ∧ g < 32
    · have := k1.2.2 g c.1 c.2
      exact inR_c (by omega)
    · have := hX g c
      exact inR_c (by omega)
  have hm := k1.1
  have hrs := rS_se hS' g
  refine c_hider0 4 sb T G L O R P C B D S N (MA mT mG mR mU mP mO mS mN) β mR g kk hg hkk hgr k1 (rG_kW hG) hH k2 k3 (fun q => ?_) (fun qs q => ?_) (fun qs i i1 q1 q2 => ?_)
  · refine ⟨-1, CA sb 0 T G L O R P C B D S N, BH 73 β, inR_c (by omega), rfl, rfl, ?_⟩
    exact m_hider 7 (CA sb 0 T G L O R P C B D S N) mT mG mR mU mP mO mS mN (BH 73 β) g kk hg hkk hR.2.2.2.1 hS'.1 hG.1 hF (fun _ => ⟨rfl, Inv_mk sb 0 T G L O R P C B D S N β mT mG mR mU mP mO mS mN h0⟩) (fun c => absurd (hrs.mpr c) q) (fun c => absurd (hrs.mpr c) q)
  · have hgs := hrs.mp qs
    refine ⟨-1, CA sb 0 T G L O R P C B D S N, BH 73 β, inR_c (by omega), rfl, rfl, ?_⟩
    refine m_hider 7 (CA sb 0 T G L O R P C B D S N) mT mG mR mU mP mO mS mN (BH 73 β) g kk hg hkk hR.2.2.2.1 hS'.1 hG.1 hF (fun c => absurd hgs c) (fun _ _ => ⟨rfl, Inv_mk sb 0 T G L O R P C B D S N β mT mG mR mU mP mO mS mN h0⟩) (fun _ x x0 x1 x2 x3 => ?_)
    exfalso
    obtain ⟨j, j0, j1, j2⟩ := hl.2.2.2 x x2.1
    obtain ⟨i, rfl⟩ : ∃ i : Nat, j = i := ⟨j.toNat, by omega⟩
    rw [← j2, ah_eq hG hS' hR hgs j1] at x3
    exact q i j1 ⟨by rw [j2]; exact (hid_eq hG hS' hR x2.1 hgs _).mp x2, x3⟩
  · have hgs := hrs.mp qs
    have hli := hl.2.2.1 i (by omega) i1
    have hlr := k1.2.1 i (by omega) i1
    refine ⟨_, CA sb 0 T G L O R P C B D S N, BH 73 β, inR_c (by omega), rfl, rfl, ?_⟩
    refine m_hider 7 (CA sb 0 T G L O R P C B D S N) mT mG mR mU mP mO mS mN (BH 73 β) g kk hg hkk hR.2.2.2.1 hS'.1 hG.1 hF (fun c => absurd hgs c) (fun _ z => ?_) (fun _ x x0 x1 x2 x3 => ⟨?_, Inv_mk sb 0 T G L O R P C B D S N β mT mG mR mU mP mO mS mN h0⟩)
    · exfalso
      refine z (S.2.2.1 i) hlr.1 hli.2.2.1 ⟨(hid_eq hG hS' hR hli hgs _).mpr q1, ?_⟩
      rw [ah_eq hG hS' hR hgs i1]
      exact q2
    · obtain ⟨j', j0, j1, j2⟩ := hl.2.2.2 x x2.1
      obtain ⟨j, rfl⟩ : ∃ j : Nat, j' = j := ⟨j'.toNat, by omega⟩
      rw [← j2, ah_eq hG hS' hR hgs j1] at x3
      have hj : hdC mR S G (S.2.2.1 j) g := by rw [j2]; exact (hid_eq hG hS' hR x2.1 hgs _).mp x2
      have e : j = i := by
        rcases Nat.lt_trichotomy i j with z | z | z
        · have := smN_up (p := fun k => hdC mR S G (S.2.2.1 k) g) i j z q1
          omega
        · exact z.symm
        · have := smN_up (p := fun k => hdC mR S G (S.2.2.1 k) g) j i z hj
          omega
      rw [← j2, e]
theorem J_stage0 {X : AX} (sb : Nat) (T : TyT) (G : TyG) (L : TyL) (O : TyO) (R : TyR) (P : TyP) (C : TyC) (B D : TyB) (S N : TyS) (β : List TyBn) (mT : TyT) (mG : TyMG) (mR : TyMR) (mU : TyMU) (mP : TyMP) (mO : TyO) (mS : TyMS) (mN : TyMN) (h : RR sb 0 T G L O R C B D S N β mT mG mR mU mP mS mN) (g : Int) (hg : inR g) : JS X 0 0 96 141 [iv g] (CV (CA sb 0 T G L O R P C B D S N) (MV (MA mT mG mR mU mP mO mS mN) (BH 73 β))) (MA mT mG mR mU mP mO mS mN) := by
  have h0 := h
  obtain ⟨hsb, hss, hT, hG, hH, hF, hO, hf, hU, hB, hS, hN, hX⟩ := h
  have hS' : rS S mS mG mR.2.2.2.1 := hS
  have hR := hH.2.2.2.2.2.2.2
  obtain ⟨k1, k2, k3⟩ := rS_k hS' hR.1
  have hgr : inR (S.1 g) := by
    by_cases c : 0 ≤ g ∧ g < 32
    · have := k1.2.2 g c.1 c.2
      exact inR_c (by omega)
    · have := hX g c
      exact inR_c (by omega)
  have hm := k1.1
  have hrs := rS_se hS' g
  have key : satM mS g → ∀ high, 0 ≤ high → (hcM mG mR mS g high mS.2.2.2.2.2.2.2.2.toNat = 0 ↔ lcC mR S G g S.2.2.2.1.toNat ≤ high) := by
    intro hs high h1
    rw [hc_eq hG hS' hR hs, smN_eq0, lcC_le h1]
    constructor
    · intro z i hi hb
      have := z i hi
      by_cases c : high < clC mR S G (S.2.2.1 i) g
      · exact absurd ⟨hb, c⟩ this
      · omega
    · intro z i hi hb
      have := z i hi hb.1
      have := hb.2
      omega
  refine aw_post (c_stage0 4 sb T G L O R P C B D S N (MA mT mG mR mU mP mO mS mN) β mR g hg hgr k1 (rG_kW hG) hH k2 k3) (fun r h' e => ?_)
  obtain ⟨rfl, rfl⟩ := e
  by_cases hs : satM mS g
  · have hsc := hrs.mpr hs
    have hlc := lcC_r hR k1 (rG_kW hG) k2 (g := g) ⟨hsc.1.1, by have := hsc.1.2; omega⟩ (k3 g hsc.1.1 (by have := hsc.1.2; omega)) S.2.2.2.1.toNat (by omega)
    refine ⟨_, CA sb 0 T G L O R P C B D S N, BH 73 β, cif_ind (P := inR) (fun _ => inR_c (by omega)) (fun _ => inR_c (by omega)), rfl, rfl, ?_⟩
    refine m_stage 7 (CA sb 0 T G L O R P C B D S N) mT mG mR mU mP mO mS mN (BH 73 β) g hg hS'.1 hG.1 hF (fun c => absurd hs c) (fun _ z => ⟨?_, Inv_mk sb 0 T G L O R P C B D S N β mT mG mR mU mP mO mS mN h0⟩) (fun _ high z0 z1 z2 z3 => ⟨?_, Inv_mk sb 0 T G L O R P C B D S N β mT mG mR mU mP mO mS mN h0⟩)
    · rw [cif_f (fun c => z _ hlc.1 c.2 ((key hs _ hlc.1).mpr (Int.le_refl _)))]
    · have a1 := (key hs high z0).mp z2
      have e : lcC mR S G g S.2.2.2.1.toNat = high := by
        by_cases c : lcC mR S G g S.2.2.2.1.toNat < high
        · exact absurd ((key hs _ hlc.1).mpr (Int.le_refl _)) (z3 _ hlc.1 c)
        · omega
      rw [cif_t ⟨hsc, by omega⟩, e]
  · refine ⟨_, CA sb 0 T G L O R P C B D S N, BH 73 β, ?_, rfl, rfl, ?_⟩
    · rw [cif_f (fun z => hs (hrs.mp z.1))]; exact inR_c (by omega)
    · refine m_stage 7 (CA sb 0 T G L O R P C B D S N) mT mG mR mU mP mO mS mN (BH 73 β) g hg hS'.1 hG.1 hF (fun _ => ⟨?_, Inv_mk sb 0 T G L O R P C B D S N β mT mG mR mU mP mO mS mN h0⟩) (fun c => absurd c hs) (fun c => absurd c hs)
      rw [cif_f (fun z => hs (hrs.mp z.1))]
theorem J_at1 {X : AX} (sb : Nat) (T : TyT) (G : TyG) (L : TyL) (O : TyO) (R : TyR) (P : TyP) (C : TyC) (B D : TyB) (S N : TyS) (β : List TyBn) (mT : TyT) (mG : TyMG) (mR : TyMR) (mU : TyMU) (mP : TyMP) (mO : TyO) (mS : TyMS) (mN : TyMN) (h : RR sb 1 T G L O R C B D S N β mT mG mR mU mP mS mN) (row place : Int) (hr : inR row) (hpp : inR place) : JS X 0 0 92 136 [iv row, iv place] (CV (CA sb 1 T G L O R P C B D S N) (MV (MA mT mG mR mU mP mO mS mN) (BH 73 β))) (MA mT mG mR mU mP mO mS mN) := by
  have h0 := h
  obtain ⟨hsb, hss, hT, hG, hH, hF, hO, hf, hU, hB, hS, hN, hX⟩ := h
  have hS' : rS N mS mG mR.2.2.2.1 := hS
  obtain ⟨k1, k2, k3⟩ := rS_k hS' hH.2.2.2.2.2.2.2.1
  have hl := hS'.2.2.2.2.2.2.2.1
  have hgt := hS'.1.2.2.2
  have hm := hl.1
  have key : ∀ g, satM mS g → (atC N G row place g ↔ atM mG mS row place g) := by
    intro g hg
    have e := rS_sat hS' hg
    have v := (hG.2.1.2.1 g hg.2.1 (by have := hg.2.2.1; omega)).2.2.2.2.1
    unfold atC atM
    constructor
    · intro z
      exact ⟨hg, by omega, by omega, by omega⟩
    · intro z
      have := z.2
      omega
  refine c_at1 7 sb T G L O R P C B D S N (MV (MA mT mG mR mU mP mO mS mN) (BH 73 β)) row place hr hpp k1 (rG_kW hG) (fun q => ?_) (fun i i0 i1 q => ?_)
  · refine ⟨-1, CA sb 1 T G L O R P C B D S N, BH 73 β, inR_c (by omega), rfl, rfl, ?_⟩
    refine aw_post (m_at 8 (CA sb 1 T G L O R P C B D S N) mT mG mR mU mP mO mS mN (BH 73 β) row place hr hpp hS'.1 hG.1) (fun r h' e => ?_)
    obtain ⟨rfl, rfl⟩ := e
    refine ⟨?_, Inv_mk sb 1 T G L O R P C B D S N β mT mG mR mU mP mO mS mN h0⟩
    rw [lstG_no]
    intro g _ _ hp
    obtain ⟨i, i0, i1, i2⟩ := hl.2.2.2 g hp.1
    refine q i i0 i1 ?_
    rw [i2]
    exact (key g hp.1).mpr hp
  · have hs := hl.2.2.1 i i0 i1
    have hp := (key _ hs).mp q
    have hlr := k1.2.1 i i0 i1
    refine ⟨_, CA sb 1 T G L O R P C B D S N, BH 73 β, inR_c (by omega), rfl, rfl, ?_⟩
    refine aw_post (m_at 8 (CA sb 1 T G L O R P C B D S N) mT mG mR mU mP mO mS mN (BH 73 β) row place hr hpp hS'.1 hG.1) (fun r h' e => ?_)
    obtain ⟨rfl, rfl⟩ := e
    refine ⟨?_, Inv_mk sb 1 T G L O R P C B D S N β mT mG mR mU mP mO mS mN h0⟩
    rw [lstG_at hp hlr.1 (fun g hg => ?_) _ (by have := hs.2.2.1; omega)]
    obtain ⟨j, j0, j1, j2⟩ := hl.2.2.2 g hg.1
    have a1 := hp.2
    have a2 := hg.2
    rw [← j2] at a2
    rw [← j2]
    rcases Int.lt_trichotomy i j with z | z | z
    · exfalso
      have hb := hl.2.1 i j i0 z j1
      unfold bef at hb
      omega
    · rw [z]
    · exfalso
      have hb := hl.2.1 j i j0 z i1
      unfold bef at hb
      omega
theorem J_spare1 {X : AX} (sb : Nat) (T : TyT) (G : TyG) (L : TyL) (O : TyO) (R : TyR) (P : TyP) (C : TyC) (B D : TyB) (S N : TyS) (β : List TyBn) (mT : TyT) (mG : TyMG) (mR : TyMR) (mU : TyMU) (mP : TyMP) (mO : TyO) (mS : TyMS) (mN : TyMN) (h : RR sb 1 T G L O R C B D S N β mT mG mR mU mP mS mN) (row : Int) (hr : inR row) : JS X 0 0 93 137 [iv row] (CV (CA sb 1 T G L O R P C B D S N) (MV (MA mT mG mR mU mP mO mS mN) (BH 73 β))) (MA mT mG mR mU mP mO mS mN) := by
  have h0 := h
  obtain ⟨hsb, hss, hT, hG, hH, hF, hO, hf, hU, hB, hS, hN, hX⟩ := h
  have hS' : rS N mS mG mR.2.2.2.1 := hS
  obtain ⟨k1, k2, k3⟩ := rS_k hS' hH.2.2.2.2.2.2.2.1
  have hl := hS'.2.2.2.2.2.2.2.1
  have hgt := hS'.1.2.2.2
  have hm := hl.1
  have hr6 := hH.2.2.2.2.2.2.2.1
  have hs3 := hS'.2.2.1
  have hs9 := hS'.2.2.2.2.2.2.2.2
  have hsd := hS'.1.2.2.1
  refine c_spare1 7 sb T G L O R P C B D S N (MA mT mG mR mU mP mO mS mN) β row hr k1 (rG_kW hG) (by rw [hH.1]; exact hr6) hH.2.1 (by rw [hH.1]; exact hH.2.2.1) (by rw [hH.1, hs3.1]; exact hs3.2) (fun q => ?_) (fun r x e q hx => ?_)
  · refine ⟨-1, CA sb 1 T G L O R P C B D S N, BH 73 β, inR_c (by omega), rfl, rfl, ?_⟩
    refine m_spare 8 (CA sb 1 T G L O R P C B D S N) mT mG mR mU mP mO mS mN (BH 73 β) row hr hS'.1 hG.1 (by omega) (fun _ => ⟨rfl, Inv_mk sb 1 T G L O R P C B D S N β mT mG mR mU mP mO mS mN h0⟩) (fun k => ?_)
    exfalso
    omega
  · obtain ⟨x1, x2, x3, x4⟩ := hH.2.2.2.1 r x hx
    have hrr := hH.2.2.2.2.2.2.2.2.1 r (by omega) (by omega)
    have hpt := ptC_r (row := row) k1 (rG_kW hG) N.2.2.2.1.toNat (by omega)
    have e2 : smN (ptC N G row) N.2.2.2.1.toNat = smN (spM mG mS row) mS.2.2.2.2.2.2.2.2.toNat := by
      have e := rLn_sum hG.1 hS'.2.2.2.2.1 hl (fun g => cif (mS.1 g = row) (mG.1 (6 * g + 4)) 0)
      rw [smN_congr (e := spM mG mS row) (e' := fun g => cif (satM mS g) (cif (mS.1 g = row) (mG.1 (6 * g + 4)) 0) 0) _ (fun k _ _ => ?_), ← e]
      · refine smN_congr _ (fun k z0 z1 => ?_)
        have hs := hl.2.2.1 k z0 (by omega)
        have ee := rS_sat hS' hs
        have v := (hG.2.1.2.1 _ hs.2.1 (by have := hs.2.2.1; omega)).2.2.2.2.1
        unfold ptC
        rw [ee.1, v]
      · unfold spM
        by_cases c : satM mS k
        · rw [cif_t c]
          by_cases c2 : mS.1 k = row
          · rw [cif_t c2, cif_t ⟨c, c2⟩]
          · rw [cif_f c2, cif_f (fun z => c2 z.2)]
        · rw [cif_f c, cif_f (fun z => c z.1)]
    refine ⟨_, CA sb 1 T G L O R P C B D S N, BH 73 β, inR_c (by omega), rfl, rfl, ?_⟩
    refine m_spare 8 (CA sb 1 T G L O R P C B D S N) mT mG mR mU mP mO mS mN (BH 73 β) row hr hS'.1 hG.1 (by omega) (fun k => ?_) (fun k => ⟨?_, Inv_mk sb 1 T G L O R P C B D S N β mT mG mR mU mP mO mS mN h0⟩)
    · exfalso
      omega
    · rw [x2, e2, e]
theorem J_hidden1 {X : AX} (sb : Nat) (T : TyT) (G : TyG) (L : TyL) (O : TyO) (R : TyR) (P : TyP) (C : TyC) (B D : TyB) (S N : TyS) (β : List TyBn) (mT : TyT) (mG : TyMG) (mR : TyMR) (mU : TyMU) (mP : TyMP) (mO : TyO) (mS : TyMS) (mN : TyMN) (h : RR sb 1 T G L O R C B D S N β mT mG mR mU mP mS mN) (g : Int) (hg : inR g) : JS X 0 0 94 139 [iv g] (CV (CA sb 1 T G L O R P C B D S N) (MV (MA mT mG mR mU mP mO mS mN) (BH 73 β))) (MA mT mG mR mU mP mO mS mN) := by
  have h0 := h
  obtain ⟨hsb, hss, hT, hG, hH, hF, hO, hf, hU, hB, hS, hN, hX⟩ := h
  have hS' : rS N mS mG mR.2.2.2.1 := hS
  have hR := hH.2.2.2.2.2.2.2
  obtain ⟨k1, k2, k3⟩ := rS_k hS' hR.1
  have hgr : inR (N.1 g) := by
    by_cases c : 0 ≤ g ∧ g < 32
    · have := k1.2.2 g c.1 c.2
      exact inR_c (by omega)
    · have := hX g c
      exact inR_c (by omega)
  have hm := k1.1
  have hrs := rS_se hS' g
  refine aw_post (c_hidden1 4 sb T G L O R P C B D S N (MA mT mG mR mU mP mO mS mN) β mR g hg hgr k1 (rG_kW hG) hH k2 k3) (fun r h' e => ?_)
  obtain ⟨rfl, rfl⟩ := e
  have h01 := smN_01 (e := fun i => bI (hdC mR N G (N.2.2.1 i) g)) (fun _ => bI_r _) N.2.2.2.1.toNat
  refine ⟨_, CA sb 1 T G L O R P C B D S N, BH 73 β, cif_ind (P := inR) (fun _ => inR_c (by omega)) (fun _ => inR_c (by omega)), rfl, rfl, ?_⟩
  refine aw_post (m_hidden 7 (CA sb 1 T G L O R P C B D S N) mT mG mR mU mP mO mS mN (BH 73 β) g hg hR.2.2.2.1 hS'.1 hG.1 hF) (fun r h' e => ?_)
  obtain ⟨rfl, rfl⟩ := e
  refine ⟨?_, Inv_mk sb 1 T G L O R P C B D S N β mT mG mR mU mP mO mS mN h0⟩
  by_cases c : satM mS g
  · rw [cif_t c, cif_t (hrs.mpr c), hc_eq hG hS' hR c]
    rfl
  · rw [cif_f c, cif_f (fun z => c (hrs.mp z))]
theorem J_hider1 {X : AX} (sb : Nat) (T : TyT) (G : TyG) (L : TyL) (O : TyO) (R : TyR) (P : TyP) (C : TyC) (B D : TyB) (S N : TyS) (β : List TyBn) (mT : TyT) (mG : TyMG) (mR : TyMR) (mU : TyMU) (mP : TyMP) (mO : TyO) (mS : TyMS) (mN : TyMN) (h : RR sb 1 T G L O R C B D S N β mT mG mR mU mP mS mN) (g kk : Int) (hg : inR g) (hkk : inR kk) : JS X 0 0 95 140 [iv g, iv kk] (CV (CA sb 1 T G L O R P C B D S N) (MV (MA mT mG mR mU mP mO mS mN) (BH 73 β))) (MA mT mG mR mU mP mO mS mN) := by
  have h0 := h
  obtain ⟨hsb, hss, hT, hG, hH, hF, hO, hf, hU, hB, hS, hN, hX⟩ := h
  have hS' : rS N mS mG mR.2.2.2.1 := hS
  have hR := hH.2.2.2.2.2.2.2
  obtain ⟨k1, k2, k3⟩ := rS_k hS' hR.1
  have hl := hS'.2.2.2.2.2.2.2.1
  have hgr : inR (N.1 g) := by
    by_cases c : 0 ≤ g ∧ g < 32
    · have := k1.2.2 g c.1 c.2
      exact inR_c (by omega)
    · have := hX g c
      exact inR_c (by omega)
  have hm := k1.1
  have hrs := rS_se hS' g
  refine c_hider1 4 sb T G L O R P C B D S N (MA mT mG mR mU mP mO mS mN) β mR g kk hg hkk hgr k1 (rG_kW hG) hH k2 k3 (fun q => ?_) (fun qs q => ?_) (fun qs i i1 q1 q2 => ?_)
  · refine ⟨-1, CA sb 1 T G L O R P C B D S N, BH 73 β, inR_c (by omega), rfl, rfl, ?_⟩
    exact m_hider 7 (CA sb 1 T G L O R P C B D S N) mT mG mR mU mP mO mS mN (BH 73 β) g kk hg hkk hR.2.2.2.1 hS'.1 hG.1 hF (fun _ => ⟨rfl, Inv_mk sb 1 T G L O R P C B D S N β mT mG mR mU mP mO mS mN h0⟩) (fun c => absurd (hrs.mpr c) q) (fun c => absurd (hrs.mpr c) q)
  · have hgs := hrs.mp qs
    refine ⟨-1, CA sb 1 T G L O R P C B D S N, BH 73 β, inR_c (by omega), rfl, rfl, ?_⟩
    refine m_hider 7 (CA sb 1 T G L O R P C B D S N) mT mG mR mU mP mO mS mN (BH 73 β) g kk hg hkk hR.2.2.2.1 hS'.1 hG.1 hF (fun c => absurd hgs c) (fun _ _ => ⟨rfl, Inv_mk sb 1 T G L O R P C B D S N β mT mG mR mU mP mO mS mN h0⟩) (fun _ x x0 x1 x2 x3 => ?_)
    exfalso
    obtain ⟨j, j0, j1, j2⟩ := hl.2.2.2 x x2.1
    obtain ⟨i, rfl⟩ : ∃ i : Nat, j = i := ⟨j.toNat, by omega⟩
    rw [← j2, ah_eq hG hS' hR hgs j1] at x3
    exact q i j1 ⟨by rw [j2]; exact (hid_eq hG hS' hR x2.1 hgs _).mp x2, x3⟩
  · have hgs := hrs.mp qs
    have hli := hl.2.2.1 i (by omega) i1
    have hlr := k1.2.1 i (by omega) i1
    refine ⟨_, CA sb 1 T G L O R P C B D S N, BH 73 β, inR_c (by omega), rfl, rfl, ?_⟩
    refine m_hider 7 (CA sb 1 T G L O R P C B D S N) mT mG mR mU mP mO mS mN (BH 73 β) g kk hg hkk hR.2.2.2.1 hS'.1 hG.1 hF (fun c => absurd hgs c) (fun _ z => ?_) (fun _ x x0 x1 x2 x3 => ⟨?_, Inv_mk sb 1 T G L O R P C B D S N β mT mG mR mU mP mO mS mN h0⟩)
    · exfalso
      refine z (N.2.2.1 i) hlr.1 hli.2.2.1 ⟨(hid_eq hG hS' hR hli hgs _).mpr q1, ?_⟩
      rw [ah_eq hG hS' hR hgs i1]
      exact q2
    · obtain ⟨j', j0, j1, j2⟩ := hl.2.2.2 x x2.1
      obtain ⟨j, rfl⟩ : ∃ j : Nat, j' = j := ⟨j'.toNat, by omega⟩
      rw [← j2, ah_eq hG hS' hR hgs j1] at x3
      have hj : hdC mR N G (N.2.2.1 j) g := by rw [j2]; exact (hid_eq hG hS' hR x2.1 hgs _).mp x2
      have e : j = i := by
        rcases Nat.lt_trichotomy i j with z | z | z
        · have := smN_up (p := fun k => hdC mR N G (N.2.2.1 k) g) i j z q1
          omega
        · exact z.symm
        · have := smN_up (p := fun k => hdC mR N G (N.2.2.1 k) g) j i z hj
          omega
      rw [← j2, e]
theorem J_stage1 {X : AX} (sb : Nat) (T : TyT) (G : TyG) (L : TyL) (O : TyO) (R : TyR) (P : TyP) (C : TyC) (B D : TyB) (S N : TyS) (β : List TyBn) (mT : TyT) (mG : TyMG) (mR : TyMR) (mU : TyMU) (mP : TyMP) (mO : TyO) (mS : TyMS) (mN : TyMN) (h : RR sb 1 T G L O R C B D S N β mT mG mR mU mP mS mN) (g : Int) (hg : inR g) : JS X 0 0 96 141 [iv g] (CV (CA sb 1 T G L O R P C B D S N) (MV (MA mT mG mR mU mP mO mS mN) (BH 73 β))) (MA mT mG mR mU mP mO mS mN) := by
  have h0 := h
  obtain ⟨hsb, hss, hT, hG, hH, hF, hO, hf, hU, hB, hS, hN, hX⟩ := h
  have hS' : rS N mS mG mR.2.2.2.1 := hS
  have hR := hH.2.2.2.2.2.2.2
  obtain ⟨k1, k2, k3⟩ := rS_k hS' hR.1
  have hgr : inR (N.1 g) := by
    by_cases c : 0 ≤ g ∧ g < 32
    · have := k1.2.2 g c.1 c.2
      exact inR_c (by omega)
    · have := hX g c
      exact inR_c (by omega)
  have hm := k1.1
  have hrs := rS_se hS' g
  have key : satM mS g → ∀ high, 0 ≤ high → (hcM mG mR mS g high mS.2.2.2.2.2.2.2.2.toNat = 0 ↔ lcC mR N G g N.2.2.2.1.toNat ≤ high) := by
    intro hs high h1
    rw [hc_eq hG hS' hR hs, smN_eq0, lcC_le h1]
    constructor
    · intro z i hi hb
      have := z i hi
      by_cases c : high < clC mR N G (N.2.2.1 i) g
      · exact absurd ⟨hb, c⟩ this
      · omega
    · intro z i hi hb
      have := z i hi hb.1
      have := hb.2
      omega
  refine aw_post (c_stage1 4 sb T G L O R P C B D S N (MA mT mG mR mU mP mO mS mN) β mR g hg hgr k1 (rG_kW hG) hH k2 k3) (fun r h' e => ?_)
  obtain ⟨rfl, rfl⟩ := e
  by_cases hs : satM mS g
  · have hsc := hrs.mpr hs
    have hlc := lcC_r hR k1 (rG_kW hG) k2 (g := g) ⟨hsc.1.1, by have := hsc.1.2; omega⟩ (k3 g hsc.1.1 (by have := hsc.1.2; omega)) N.2.2.2.1.toNat (by omega)
    refine ⟨_, CA sb 1 T G L O R P C B D S N, BH 73 β, cif_ind (P := inR) (fun _ => inR_c (by omega)) (fun _ => inR_c (by omega)), rfl, rfl, ?_⟩
    refine m_stage 7 (CA sb 1 T G L O R P C B D S N) mT mG mR mU mP mO mS mN (BH 73 β) g hg hS'.1 hG.1 hF (fun c => absurd hs c) (fun _ z => ⟨?_, Inv_mk sb 1 T G L O R P C B D S N β mT mG mR mU mP mO mS mN h0⟩) (fun _ high z0 z1 z2 z3 => ⟨?_, Inv_mk sb 1 T G L O R P C B D S N β mT mG mR mU mP mO mS mN h0⟩)
    · rw [cif_f (fun c => z _ hlc.1 c.2 ((key hs _ hlc.1).mpr (Int.le_refl _)))]
    · have a1 := (key hs high z0).mp z2
      have e : lcC mR N G g N.2.2.2.1.toNat = high := by
        by_cases c : lcC mR N G g N.2.2.2.1.toNat < high
        · exact absurd ((key hs _ hlc.1).mpr (Int.le_refl _)) (z3 _ hlc.1 c)
        · omega
      rw [cif_t ⟨hsc, by omega⟩, e]
  · refine ⟨_, CA sb 1 T G L O R P C B D S N, BH 73 β, ?_, rfl, rfl, ?_⟩
    · rw [cif_f (fun z => hs (hrs.mp z.1))]; exact inR_c (by omega)
    · refine m_stage 7 (CA sb 1 T G L O R P C B D S N) mT mG mR mU mP mO mS mN (BH 73 β) g hg hS'.1 hG.1 hF (fun _ => ⟨?_, Inv_mk sb 1 T G L O R P C B D S N β mT mG mR mU mP mO mS mN h0⟩) (fun c => absurd c hs) (fun c => absurd c hs)
      rw [cif_f (fun z => hs (hrs.mp z.1))]

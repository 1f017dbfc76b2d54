theorem mRun_b {n : Int} {w f : FN} {q : TyM} (hn : 1 ≤ n ∧ n ≤ 4) (hq : kM 0 q) : ∀ (k : Nat), (∀ i, 0 ≤ i → i < (k : Int) → 0 ≤ w (f i) ∧ w (f i) ≤ 6) → ∀ g, (∃ j, 0 ≤ j ∧ j < (k : Int) ∧ f j = g) → (0 ≤ (mRun n w f k q).2.2.2.1 g ∧ (mRun n w f k q).2.2.2.1 g ≤ 6 * k) ∧ (0 ≤ (mRun n w f k q).2.2.2.2.1 g ∧ (mRun n w f k q).2.2.2.2.1 g < 4) := by
  intro k
  induction k with
  | zero => intro _ g ⟨j, a, b, _⟩; push_cast at b; omega
  | succ k ih =>
    intro hw g ⟨j, a, b, c⟩
    have hk := mRun_k hn hq k (fun i i0 i1 => hw i i0 (by push_cast; omega))
    have hm := mMi_r hn hk
    have hg := (mGa_r (q := mRun n w f k q) hn).1
    rw [mRun]
    show (0 ≤ aUp (mRun n w f k q).2.2.2.1 (f k) (mMi n (mRun n w f k q)) g ∧ aUp (mRun n w f k q).2.2.2.1 (f k) (mMi n (mRun n w f k q)) g ≤ 6 * ((k + 1 : Nat) : Int)) ∧ (0 ≤ aUp (mRun n w f k q).2.2.2.2.1 (f k) (mGa n (mRun n w f k q)) g ∧ aUp (mRun n w f k q).2.2.2.2.1 (f k) (mGa n (mRun n w f k q)) g < 4)
    by_cases e : g = f k
    · rw [e, aUp_s, aUp_s]
      push_cast
      omega
    · rw [aUp_n _ _ e, aUp_n _ _ e]
      have hj : j ≠ k := fun q => e (by rw [← c, q])
      have := ih (fun i i0 i1 => hw i i0 (by push_cast; omega)) g ⟨j, a, by push_cast at b; omega, c⟩
      push_cast
      omega
theorem J_morning0 {X : AX} (sb : Nat) (T : TyT) (G : TyG) (L : TyL) (O : TyO) (R : TyR) (P : TyP) (C : TyC) (B D : TyB) (S N : TyS) (β : List TyBn) (mT : TyT) (mG : TyMG) (mR : TyMR) (mU : TyMU) (mP : TyMP) (mO : TyO) (mS : TyMS) (mN : TyMN) (h : RR sb 0 T G L O R C B D S N β mT mG mR mU mP mS mN) (n sh : Int) (hn : inR n) (hsh : inR sh) : JS X 0 0 97 142 [iv n, iv sh] (CV (CA sb 0 T G L O R P C B D S N) (MV (MA mT mG mR mU mP mO mS mN) (BH 73 β))) (MA mT mG mR mU mP mO mS mN) := by
  have h0 := h
  obtain ⟨hsb, hss, hT, hG, hH, hF, hO, hf, hU, hB, hS, hN, hX⟩ := h
  have hS' : rS S mS mG mR.2.2.2.1 := hS
  have hR := hH.2.2.2.2.2.2.2
  obtain ⟨k1, k2, k3⟩ := rS_k hS' hR.1
  have hl := hS'.2.2.2.2.2.2.2.1
  have hm := hl.1
  have hgt := hS'.1.2.2.2
  have hg32 := hG.1.1
  have hlt := rLn_lt hG.1 hS'.2.2.2.2.1 hl
  have hcnt := cnt_eq hG.1 hS'
  have hwG := rG_kW hG
  refine c_morning0 6 sb T G L O R P C B D S N (MV (MA mT mG mR mU mP mO mS mN) (BH 73 β)) n sh (fun k => S.2.2.1 (S.2.2.2.1 - 1 - k)) (fun _ => rfl) hn hsh k1 hwG (fun q => ?_) (fun q => ?_)
  · refine ⟨-10000, CA sb 0 T G L O R P C B D S N, BH 73 β, inR_c (by omega), rfl, rfl, ?_⟩
    exact m_morning 8 (CA sb 0 T G L O R P C B D S N) mT mG mR mU mP mO mS mN (BH 73 β) n sh S.2.2.2.1 (fun k => S.2.2.1 (S.2.2.2.1 - 1 - k)) hn hsh hS'.1 hG.1 hm hlt hcnt (fun _ => ⟨rfl, Inv_mk sb 0 T G L O R P C B D S N β mT mG mR mU mP mO mS mN h0⟩) (fun k => absurd k q)
  · have hfw : ∀ i, 0 ≤ i → i < ((S.2.2.2.1.toNat : Nat) : Int) → 0 ≤ G.2.2.2.1 (S.2.2.1 (S.2.2.2.1 - 1 - i)) ∧ G.2.2.2.1 (S.2.2.1 (S.2.2.2.1 - 1 - i)) ≤ 6 := by
      intro i i0 i1
      have := k1.2.1 (S.2.2.2.1 - 1 - i) (by omega) (by omega)
      exact (hwG _ this.1 this.2).1
    have hqC : kM 0 (0, 0, fil C.2.2.2 0 4, fil C.1 (-1) 32, fil C.2.1 (-1) 32, fil C.2.2.1 (-1) 32) := ⟨⟨Int.le_refl 0, Int.le_refl 0⟩, ⟨Int.le_refl 0, Int.le_refl 0⟩, fun i i0 i1 => by
      show 0 ≤ fil C.2.2.2 0 4 i ∧ fil C.2.2.2 0 4 i ≤ 0
      rw [fil_lt 4 i i0 i1]; omega⟩
    obtain ⟨r1, r2, r3, r4⟩ := mRun_eq (n := n) (w := G.2.2.2.1) (w' := fun g => mG.1 (6 * g + 4)) (f := fun k => S.2.2.1 (S.2.2.2.1 - 1 - k)) (q := (0, 0, fil C.2.2.2 0 4, fil C.1 (-1) 32, fil C.2.1 (-1) 32, fil C.2.2.1 (-1) 32)) (q' := (0, 0, fil mN.2.2.2.1 0 4, mN.1, mN.2.1, fil mN.2.2.1 (-1) 32)) q.1 rfl rfl (fun i i0 i1 => by
      show fil C.2.2.2 0 4 i = fil mN.2.2.2.1 0 4 i
      rw [fil_lt 4 i i0 i1, fil_lt 4 i i0 i1]) S.2.2.2.1.toNat (fun i i0 i1 => by
      have := k1.2.1 (S.2.2.2.1 - 1 - i) (by omega) (by omega)
      exact (hG.2.1.2.1 _ this.1 this.2).2.2.2.2.1)
    have hb := mRun_b q.1 hqC S.2.2.2.1.toNat hfw
    have hkM := mRun_k q.1 hqC S.2.2.2.1.toNat hfw
    have hend := hkM.2.1
    refine ⟨_, (CA sb 0 T G L O R P (mCq (mRun n G.2.2.2.1 (fun k => S.2.2.1 (S.2.2.2.1 - 1 - k)) S.2.2.2.1.toNat (0, 0, fil C.2.2.2 0 4, fil C.1 (-1) 32, fil C.2.1 (-1) 32, fil C.2.2.1 (-1) 32))) B D S N), BH 73 β, inR_c (by omega), rfl, rfl, ?_⟩
    refine m_morning 8 _ mT mG mR mU mP mO mS mN (BH 73 β) n sh S.2.2.2.1 (fun k => S.2.2.1 (S.2.2.2.1 - 1 - k)) hn hsh hS'.1 hG.1 hm hlt hcnt (fun k => absurd q k) (fun k => ⟨by rw [r2], Inv_mk sb 0 T G L O R P (mCq (mRun n G.2.2.2.1 (fun k => S.2.2.1 (S.2.2.2.1 - 1 - k)) S.2.2.2.1.toNat (0, 0, fil C.2.2.2 0 4, fil C.1 (-1) 32, fil C.2.1 (-1) 32, fil C.2.2.1 (-1) 32))) B D S N β mT mG mR mU mP mO mS (mNq (mRun n (fun g => mG.1 (6 * g + 4)) (fun k => S.2.2.1 (S.2.2.2.1 - 1 - k)) S.2.2.2.1.toNat (0, 0, fil mN.2.2.2.1 0 4, mN.1, mN.2.1, fil mN.2.2.1 (-1) 32)) 1 mS.2.2.2.2.2.2.2.2) ⟨hsb, hss, hT, hG, hH, hF, hO, hf, hU, hB, hS, ?_, hX⟩⟩)
    generalize mRun n G.2.2.2.1 (fun k => S.2.2.1 (S.2.2.2.1 - 1 - k)) S.2.2.2.1.toNat (0, 0, fil C.2.2.2 0 4, fil C.1 (-1) 32, fil C.2.1 (-1) 32, fil C.2.2.1 (-1) 32) = pc at *
    generalize mRun n (fun g => mG.1 (6 * g + 4)) (fun k => S.2.2.1 (S.2.2.2.1 - 1 - k)) S.2.2.2.1.toNat (0, 0, fil mN.2.2.2.1 0 4, mN.1, mN.2.1, fil mN.2.2.1 (-1) 32) = pm at *
    have hall : ∀ g, 0 ≤ g → g < 32 → (((g < mS.2.2.2.2.2.2.2.2 ∧ ¬ pm.2.2.2.2.2 g = -1) ∧ pc.2.2.2.1 g = pm.2.2.2.1 g ∧ pc.2.2.2.2.1 g = pm.2.2.2.2.1 g ∧ pc.2.2.2.2.2 g = pm.2.2.2.2.2 g ∧ (0 ≤ pc.2.2.2.1 g ∧ pc.2.2.2.1 g ≤ 1000) ∧ (0 ≤ pc.2.2.2.2.1 g ∧ pc.2.2.2.2.1 g ≤ 1000) ∧ pm.2.2.2.2.2 g ≤ 32) ∨ (pm.2.2.2.2.2 g = -1 ∧ pc.2.2.2.1 g = -1 ∧ pc.2.2.2.2.1 g = -1 ∧ pc.2.2.2.2.2 g = -1)) := by
      intro g g0 g1
      by_cases c : ∃ j, 0 ≤ j ∧ j < ((S.2.2.2.1.toNat : Nat) : Int) ∧ S.2.2.1 (S.2.2.2.1 - 1 - j) = g
      · obtain ⟨c1, c2, c3, c4, c5⟩ := (r4 g).1 c
        have hbg := hb g c
        obtain ⟨j, j0, j1, j2⟩ := c
        have hs := hl.2.2.1 (S.2.2.2.1 - 1 - j) (by omega) (by omega)
        rw [j2] at hs
        have := hs.2.2.1
        refine Or.inl ⟨⟨this, by omega⟩, c1, c2, c3, by omega, by omega, by omega⟩
      · obtain ⟨c1, c2, c3, c4, c5, c6⟩ := (r4 g).2 c
        refine Or.inr ⟨?_, ?_, ?_, ?_⟩
        · rw [c6]; exact fil_lt 32 g g0 g1
        · rw [c1]; exact fil_lt 32 g g0 g1
        · rw [c2]; exact fil_lt 32 g g0 g1
        · rw [c3]; exact fil_lt 32 g g0 g1
    refine ⟨Or.inr rfl, ⟨hgt.1, hS'.2.2.2.2.1⟩, fun i i0 i1 => ?_, fun g g0 g1 => ?_⟩
    · show -1 ≤ pm.2.2.2.2.2 i ∧ pm.2.2.2.2.2 i ≤ 32
      rcases hall i i0 i1 with ⟨a1, a2, a3, a4, a5, a6, a7⟩ | ⟨a1, a2, a3, a4⟩
      · by_cases c : ∃ j, 0 ≤ j ∧ j < ((S.2.2.2.1.toNat : Nat) : Int) ∧ S.2.2.1 (S.2.2.2.1 - 1 - j) = i
        · have := (r4 i).1 c
          omega
        · have e : pm.2.2.2.2.2 i = -1 := by rw [((r4 i).2 c).2.2.2.2.2]; exact fil_lt 32 i i0 i1
          omega
      · omega
    · rcases hall g g0 g1 with ⟨a1, a2, a3, a4, a5, a6, a7⟩ | ⟨a1, a2, a3, a4⟩
      · exact Or.inl ⟨⟨rfl, a1.1, a1.2⟩, a2, a3, a4, a5, a6⟩
      · exact Or.inr ⟨fun z => z.2.2 a1, a2, a3, a4⟩
theorem J_all0 {X : AX} (sb : Nat) (T : TyT) (G : TyG) (L : TyL) (O : TyO) (R : TyR) (P : TyP) (C : TyC) (B D : TyB) (S N : TyS) (β : List TyBn) (mT : TyT) (mG : TyMG) (mR : TyMR) (mU : TyMU) (mP : TyMP) (mO : TyO) (mS : TyMS) (mN : TyMN) (h : RR sb 0 T G L O R C B D S N β mT mG mR mU mP mS mN) (w : Int) (hw : inR w) : JS X 0 0 99 144 [iv w] (CV (CA sb 0 T G L O R P C B D S N) (MV (MA mT mG mR mU mP mO mS mN) (BH 73 β))) (MA mT mG mR mU mP mO mS mN) := by
  have h0 := h
  obtain ⟨hsb, hss, hT, hG, hH, hF, hO, hf, hU, hB, hS, hN, hX⟩ := h
  have hS' : rS S mS mG mR.2.2.2.1 := hS
  have hR := hH.2.2.2.2.2.2.2
  obtain ⟨k1, k2, k3⟩ := rS_k hS' hR.1
  have hl := hS'.2.2.2.2.2.2.2.1
  have hm := hl.1
  have hg32 := hG.1.1
  obtain ⟨e1, e2, e3, e4⟩ := rO_eq (mO := mO) hG.1 hO
  have hO0 := hO.1
  have q1 := hG.2.2.2.1
  have q3 := hG.2.2.2.2.1
  have b1 := smN_01 (e := mG.2.1) (fun k => by rcases hG.1.2.2.2.2.1 k with z | z <;> omega) mG.2.2.2.toNat
  have b3 : ∀ k : Nat, 0 ≤ smN (bsM mG) k ∧ smN (bsM mG) k ≤ k * k := by
    intro k
    induction k with
    | zero => exact ⟨Int.le_refl 0, Int.le_refl 0⟩
    | succ k ih =>
      have := smN_01 (e := fun b => mG.2.2.1 (32 * (k : Int) + b)) (fun j => by rcases hG.1.2.2.2.2.2 (32 * (k : Int) + j) with z | z <;> omega) ((k : Int)).toNat
      rw [smN]
      have e : bsM mG k = smN (fun b => mG.2.2.1 (32 * (k : Int) + b)) ((k : Int)).toNat := rfl
      rw [e]
      push_cast
      rw [Int.add_mul, Int.mul_add]
      omega
  have b3' : 0 ≤ smN (bsM mG) mG.2.2.2.toNat ∧ smN (bsM mG) mG.2.2.2.toNat ≤ 1024 := by
    have h1 := b3 mG.2.2.2.toNat
    have h2 : ((mG.2.2.2.toNat : Nat) : Int) * ((mG.2.2.2.toNat : Nat) : Int) ≤ 32 * ((mG.2.2.2.toNat : Nat) : Int) := Int.mul_le_mul_of_nonneg_right (by omega) (by omega)
    omega
  have b6 := smN_01 (e := snC mR S G) (fun k => bI_r _) S.2.2.2.1.toNat
  have c5 : smN (seeM mG mR mS 5) mS.2.2.2.2.2.2.2.2.toNat = S.2.2.2.1 := by
    rw [← cnt_eq hG.1 hS']
    refine smN_congr _ (fun k _ _ => bI_congr ⟨fun z => z.1, fun z => ⟨z, Or.inl rfl⟩⟩)
  have c6 : smN (seeM mG mR mS 6) mS.2.2.2.2.2.2.2.2.toNat = smN (snC mR S G) S.2.2.2.1.toNat := by
    have e := rLn_sum hG.1 hS'.2.2.2.2.1 hl (fun g => bI (hcM mG mR mS g mR.2.2.2.2.1 mS.2.2.2.2.2.2.2.2.toNat = 0))
    have ea : smN (seeM mG mR mS 6) mS.2.2.2.2.2.2.2.2.toNat = smN (fun g => cif (satM mS g) (bI (hcM mG mR mS g mR.2.2.2.2.1 mS.2.2.2.2.2.2.2.2.toNat = 0)) 0) mS.2.2.2.2.2.2.2.2.toNat := by
      refine smN_congr _ (fun k _ _ => ?_)
      unfold seeM
      by_cases c : satM mS k
      · rw [cif_t c]
        exact bI_congr ⟨fun z => by rcases z.2 with y | y; · omega
                                    · exact y, fun z => ⟨c, Or.inr z⟩⟩
      · rw [cif_f c, bI_f (fun z => c z.1)]
    rw [ea, ← e]
    refine smN_congr _ (fun k k0 k1' => ?_)
    have hs := hl.2.2.1 k k0 (by omega)
    unfold snC
    rw [hc_eq hG hS' hR hs]
    rfl
  refine aw_post (c_all0 3 sb T G L O R P C B D S N (MA mT mG mR mU mP mO mS mN) β mR w hw k1 (rG_kW hG) hH k2) (fun r h' e => ?_)
  obtain ⟨rfl, rfl⟩ := e
  refine ⟨_, CA sb 0 T G L O R P C B D S N, BH 73 β, ?_, rfl, rfl, ?_⟩
  · have hv1 := hG.2.1.1
    have hv2 := hH.1
    have hv3 := hR.1
    exact cif_ind (P := inR) (fun _ => inR_c (by omega)) (fun _ => cif_ind (P := inR) (fun _ => inR_c (by omega)) (fun _ => cif_ind (P := inR) (fun _ => inR_c (by omega)) (fun _ => cif_ind (P := inR) (fun _ => inR_c (by omega)) (fun _ => cif_ind (P := inR) (fun _ => inR_c (by omega)) (fun _ => cif_ind (P := inR) (fun _ => inR_c (by omega)) (fun _ => cif_ind (P := inR) (fun _ => inR_c (by omega)) (fun _ => inR_c (by omega))))))))
  · refine m_all 6 (CA sb 0 T G L O R P C B D S N) mT mG mR mU mP mO mS mN (BH 73 β) w hw hR.2.2.2.1 hS'.1 hG.1 hU hF (fun c => ⟨?_, Inv_mk sb 0 T G L O R P C B D S N β mT mG mR mU mP mO mS mN h0⟩) (fun c => ⟨?_, Inv_mk sb 0 T G L O R P C B D S N β mT mG mR mU mP mO mS mN h0⟩) (fun c => ⟨?_, Inv_mk sb 0 T G L O R P C B D S N β mT mG mR mU mP mO mS mN h0⟩) (fun c => ⟨?_, Inv_mk sb 0 T G L O R P C B D S N β mT mG mR mU mP mO mS mN h0⟩) (fun c => ⟨?_, Inv_mk sb 0 T G L O R P C B D S N β mT mG mR mU mP (ordM mG mU mO) mS mN h0⟩) (fun c => ⟨?_, Inv_mk sb 0 T G L O R P C B D S N β mT mG mR mU mP mO mS mN h0⟩) (fun c => ⟨?_, Inv_mk sb 0 T G L O R P C B D S N β mT mG mR mU mP mO mS mN h0⟩)
    · rw [cif_t c, hG.2.1.1]
    · rw [cif_f (by omega), cif_t c, q1]
    · rw [cif_f (by omega), cif_f (by omega), cif_t c, hH.1]
    · rw [cif_f (by omega), cif_f (by omega), cif_f (by omega), cif_t c, q3]
    · rw [cif_f (by omega), cif_f (by omega), cif_f (by omega), cif_f (by omega), cif_t c, e1]
    · rcases c with c | c
      · subst c
        rw [cif_f (by omega), cif_f (by omega), cif_f (by omega), cif_f (by omega), cif_f (by omega), cif_t rfl, c5]
      · subst c
        rw [cif_f (by omega), cif_f (by omega), cif_f (by omega), cif_f (by omega), cif_f (by omega), cif_f (by omega), cif_t rfl, c6]
    · rw [cif_f (by omega), cif_f (by omega), cif_f (by omega), cif_f (by omega), cif_f (by omega), cif_f (by omega), cif_f (by omega)]
theorem J_morning1 {X : AX} (sb : Nat) (T : TyT) (G : TyG) (L : TyL) (O : TyO) (R : TyR) (P : TyP) (C : TyC) (B D : TyB) (S N : TyS) (β : List TyBn) (mT : TyT) (mG : TyMG) (mR : TyMR) (mU : TyMU) (mP : TyMP) (mO : TyO) (mS : TyMS) (mN : TyMN) (h : RR sb 1 T G L O R C B D S N β mT mG mR mU mP mS mN) (n sh : Int) (hn : inR n) (hsh : inR sh) : JS X 0 0 97 142 [iv n, iv sh] (CV (CA sb 1 T G L O R P C B D S N) (MV (MA mT mG mR mU mP mO mS mN) (BH 73 β))) (MA mT mG mR mU mP mO mS mN) := by
  have h0 := h
  obtain ⟨hsb, hss, hT, hG, hH, hF, hO, hf, hU, hB, hS, hN, hX⟩ := h
  have hS' : rS N mS mG mR.2.2.2.1 := hS
  have hR := hH.2.2.2.2.2.2.2
  obtain ⟨k1, k2, k3⟩ := rS_k hS' hR.1
  have hl := hS'.2.2.2.2.2.2.2.1
  have hm := hl.1
  have hgt := hS'.1.2.2.2
  have hg32 := hG.1.1
  have hlt := rLn_lt hG.1 hS'.2.2.2.2.1 hl
  have hcnt := cnt_eq hG.1 hS'
  have hwG := rG_kW hG
  refine c_morning1 6 sb T G L O R P C B D S N (MV (MA mT mG mR mU mP mO mS mN) (BH 73 β)) n sh (fun k => N.2.2.1 (N.2.2.2.1 - 1 - k)) (fun _ => rfl) hn hsh k1 hwG (fun q => ?_) (fun q => ?_)
  · refine ⟨-10000, CA sb 1 T G L O R P C B D S N, BH 73 β, inR_c (by omega), rfl, rfl, ?_⟩
    exact m_morning 8 (CA sb 1 T G L O R P C B D S N) mT mG mR mU mP mO mS mN (BH 73 β) n sh N.2.2.2.1 (fun k => N.2.2.1 (N.2.2.2.1 - 1 - k)) hn hsh hS'.1 hG.1 hm hlt hcnt (fun _ => ⟨rfl, Inv_mk sb 1 T G L O R P C B D S N β mT mG mR mU mP mO mS mN h0⟩) (fun k => absurd k q)
  · have hfw : ∀ i, 0 ≤ i → i < ((N.2.2.2.1.toNat : Nat) : Int) → 0 ≤ G.2.2.2.1 (N.2.2.1 (N.2.2.2.1 - 1 - i)) ∧ G.2.2.2.1 (N.2.2.1 (N.2.2.2.1 - 1 - i)) ≤ 6 := by
      intro i i0 i1
      have := k1.2.1 (N.2.2.2.1 - 1 - i) (by omega) (by omega)
      exact (hwG _ this.1 this.2).1
    have hqC : kM 0 (0, 0, fil C.2.2.2 0 4, fil C.1 (-1) 32, fil C.2.1 (-1) 32, fil C.2.2.1 (-1) 32) := ⟨⟨Int.le_refl 0, Int.le_refl 0⟩, ⟨Int.le_refl 0, Int.le_refl 0⟩, fun i i0 i1 => by
      show 0 ≤ fil C.2.2.2 0 4 i ∧ fil C.2.2.2 0 4 i ≤ 0
      rw [fil_lt 4 i i0 i1]; omega⟩
    obtain ⟨r1, r2, r3, r4⟩ := mRun_eq (n := n) (w := G.2.2.2.1) (w' := fun g => mG.1 (6 * g + 4)) (f := fun k => N.2.2.1 (N.2.2.2.1 - 1 - k)) (q := (0, 0, fil C.2.2.2 0 4, fil C.1 (-1) 32, fil C.2.1 (-1) 32, fil C.2.2.1 (-1) 32)) (q' := (0, 0, fil mN.2.2.2.1 0 4, mN.1, mN.2.1, fil mN.2.2.1 (-1) 32)) q.1 rfl rfl (fun i i0 i1 => by
      show fil C.2.2.2 0 4 i = fil mN.2.2.2.1 0 4 i
      rw [fil_lt 4 i i0 i1, fil_lt 4 i i0 i1]) N.2.2.2.1.toNat (fun i i0 i1 => by
      have := k1.2.1 (N.2.2.2.1 - 1 - i) (by omega) (by omega)
      exact (hG.2.1.2.1 _ this.1 this.2).2.2.2.2.1)
    have hb := mRun_b q.1 hqC N.2.2.2.1.toNat hfw
    have hkM := mRun_k q.1 hqC N.2.2.2.1.toNat hfw
    have hend := hkM.2.1
    refine ⟨_, (CA sb 1 T G L O R P (mCq (mRun n G.2.2.2.1 (fun k => N.2.2.1 (N.2.2.2.1 - 1 - k)) N.2.2.2.1.toNat (0, 0, fil C.2.2.2 0 4, fil C.1 (-1) 32, fil C.2.1 (-1) 32, fil C.2.2.1 (-1) 32))) B D S N), BH 73 β, inR_c (by omega), rfl, rfl, ?_⟩
    refine m_morning 8 _ mT mG mR mU mP mO mS mN (BH 73 β) n sh N.2.2.2.1 (fun k => N.2.2.1 (N.2.2.2.1 - 1 - k)) hn hsh hS'.1 hG.1 hm hlt hcnt (fun k => absurd q k) (fun k => ⟨by rw [r2], Inv_mk sb 1 T G L O R P (mCq (mRun n G.2.2.2.1 (fun k => N.2.2.1 (N.2.2.2.1 - 1 - k)) N.2.2.2.1.toNat (0, 0, fil C.2.2.2 0 4, fil C.1 (-1) 32, fil C.2.1 (-1) 32, fil C.2.2.1 (-1) 32))) B D S N β mT mG mR mU mP mO mS (mNq (mRun n (fun g => mG.1 (6 * g + 4)) (fun k => N.2.2.1 (N.2.2.2.1 - 1 - k)) N.2.2.2.1.toNat (0, 0, fil mN.2.2.2.1 0 4, mN.1, mN.2.1, fil mN.2.2.1 (-1) 32)) 1 mS.2.2.2.2.2.2.2.2) ⟨hsb, hss, hT, hG, hH, hF, hO, hf, hU, hB, hS, ?_, hX⟩⟩)
    generalize mRun n G.2.2.2.1 (fun k => N.2.2.1 (N.2.2.2.1 - 1 - k)) N.2.2.2.1.toNat (0, 0, fil C.2.2.2 0 4, fil C.1 (-1) 32, fil C.2.1 (-1) 32, fil C.2.2.1 (-1) 32) = pc at *
    generalize mRun n (fun g => mG.1 (6 * g + 4)) (fun k => N.2.2.1 (N.2.2.2.1 - 1 - k)) N.2.2.2.1.toNat (0, 0, fil mN.2.2.2.1 0 4, mN.1, mN.2.1, fil mN.2.2.1 (-1) 32) = pm at *
    have hall : ∀ g, 0 ≤ g → g < 32 → (((g < mS.2.2.2.2.2.2.2.2 ∧ ¬ pm.2.2.2.2.2 g = -1) ∧ pc.2.2.2.1 g = pm.2.2.2.1 g ∧ pc.2.2.2.2.1 g = pm.2.2.2.2.1 g ∧ pc.2.2.2.2.2 g = pm.2.2.2.2.2 g ∧ (0 ≤ pc.2.2.2.1 g ∧ pc.2.2.2.1 g ≤ 1000) ∧ (0 ≤ pc.2.2.2.2.1 g ∧ pc.2.2.2.2.1 g ≤ 1000) ∧ pm.2.2.2.2.2 g ≤ 32) ∨ (pm.2.2.2.2.2 g = -1 ∧ pc.2.2.2.1 g = -1 ∧ pc.2.2.2.2.1 g = -1 ∧ pc.2.2.2.2.2 g = -1)) := by
      intro g g0 g1
      by_cases c : ∃ j, 0 ≤ j ∧ j < ((N.2.2.2.1.toNat : Nat) : Int) ∧ N.2.2.1 (N.2.2.2.1 - 1 - j) = g
      · obtain ⟨c1, c2, c3, c4, c5⟩ := (r4 g).1 c
        have hbg := hb g c
        obtain ⟨j, j0, j1, j2⟩ := c
        have hs := hl.2.2.1 (N.2.2.2.1 - 1 - j) (by omega) (by omega)
        rw [j2] at hs
        have := hs.2.2.1
        refine Or.inl ⟨⟨this, by omega⟩, c1, c2, c3, by omega, by omega, by omega⟩
      · obtain ⟨c1, c2, c3, c4, c5, c6⟩ := (r4 g).2 c
        refine Or.inr ⟨?_, ?_, ?_, ?_⟩
        · rw [c6]; exact fil_lt 32 g g0 g1
        · rw [c1]; exact fil_lt 32 g g0 g1
        · rw [c2]; exact fil_lt 32 g g0 g1
        · rw [c3]; exact fil_lt 32 g g0 g1
    refine ⟨Or.inr rfl, ⟨hgt.1, hS'.2.2.2.2.1⟩, fun i i0 i1 => ?_, fun g g0 g1 => ?_⟩
    · show -1 ≤ pm.2.2.2.2.2 i ∧ pm.2.2.2.2.2 i ≤ 32
      rcases hall i i0 i1 with ⟨a1, a2, a3, a4, a5, a6, a7⟩ | ⟨a1, a2, a3, a4⟩
      · by_cases c : ∃ j, 0 ≤ j ∧ j < ((N.2.2.2.1.toNat : Nat) : Int) ∧ N.2.2.1 (N.2.2.2.1 - 1 - j) = i
        · have := (r4 i).1 c
          omega
        · have e : pm.2.2.2.2.2 i = -1 := by rw [((r4 i).2 c).2.2.2.2.2]; exact fil_lt 32 i i0 i1
          omega
      · omega
    · rcases hall g g0 g1 with ⟨a1, a2, a3, a4, a5, a6, a7⟩ | ⟨a1, a2, a3, a4⟩
      · exact Or.inl ⟨⟨rfl, a1.1, a1.2⟩, a2, a3, a4, a5, a6⟩
      · exact Or.inr ⟨fun z => z.2.2 a1, a2, a3, a4⟩
theorem J_all1 {X : AX} (sb : Nat) (T : TyT) (G : TyG) (L : TyL) (O : TyO) (R : TyR) (P : TyP) (C : TyC) (B D : TyB) (S N : TyS) (β : List TyBn) (mT : TyT) (mG : TyMG) (mR : TyMR) (mU : TyMU) (mP : TyMP) (mO : TyO) (mS : TyMS) (mN : TyMN) (h : RR sb 1 T G L O R C B D S N β mT mG mR mU mP mS mN) (w : Int) (hw : inR w) : JS X 0 0 99 144 [iv w] (CV (CA sb 1 T G L O R P C B D S N) (MV (MA mT mG mR mU mP mO mS mN) (BH 73 β))) (MA mT mG mR mU mP mO mS mN) := by
  have h0 := h
  obtain ⟨hsb, hss, hT, hG, hH, hF, hO, hf, hU, hB, hS, hN, hX⟩ := h
  have hS' : rS N mS mG mR.2.2.2.1 := hS
  have hR := hH.2.2.2.2.2.2.2
  obtain ⟨k1, k2, k3⟩ := rS_k hS' hR.1
  have hl := hS'.2.2.2.2.2.2.2.1
  have hm := hl.1
  have hg32 := hG.1.1
  obtain ⟨e1, e2, e3, e4⟩ := rO_eq (mO := mO) hG.1 hO
  have hO0 := hO.1
  have q1 := hG.2.2.2.1
  have q3 := hG.2.2.2.2.1
  have b1 := smN_01 (e := mG.2.1) (fun k => by rcases hG.1.2.2.2.2.1 k with z | z <;> omega) mG.2.2.2.toNat
  have b3 : ∀ k : Nat, 0 ≤ smN (bsM mG) k ∧ smN (bsM mG) k ≤ k * k := by
    intro k
    induction k with
    | zero => exact ⟨Int.le_refl 0, Int.le_refl 0⟩
    | succ k ih =>
      have := smN_01 (e := fun b => mG.2.2.1 (32 * (k : Int) + b)) (fun j => by rcases hG.1.2.2.2.2.2 (32 * (k : Int) + j) with z | z <;> omega) ((k : Int)).toNat
      rw [smN]
      have e : bsM mG k = smN (fun b => mG.2.2.1 (32 * (k : Int) + b)) ((k : Int)).toNat := rfl
      rw [e]
      push_cast
      rw [Int.add_mul, Int.mul_add]
      omega
  have b3' : 0 ≤ smN (bsM mG) mG.2.2.2.toNat ∧ smN (bsM mG) mG.2.2.2.toNat ≤ 1024 := by
    have h1 := b3 mG.2.2.2.toNat
    have h2 : ((mG.2.2.2.toNat : Nat) : Int) * ((mG.2.2.2.toNat : Nat) : Int) ≤ 32 * ((mG.2.2.2.toNat : Nat) : Int) := Int.mul_le_mul_of_nonneg_right (by omega) (by omega)
    omega
  have b6 := smN_01 (e := snC mR N G) (fun k => bI_r _) N.2.2.2.1.toNat
  have c5 : smN (seeM mG mR mS 5) mS.2.2.2.2.2.2.2.2.toNat = N.2.2.2.1 := by
    rw [← cnt_eq hG.1 hS']
    refine smN_congr _ (fun k _ _ => bI_congr ⟨fun z => z.1, fun z => ⟨z, Or.inl rfl⟩⟩)
  have c6 : smN (seeM mG mR mS 6) mS.2.2.2.2.2.2.2.2.toNat = smN (snC mR N G) N.2.2.2.1.toNat := by
    have e := rLn_sum hG.1 hS'.2.2.2.2.1 hl (fun g => bI (hcM mG mR mS g mR.2.2.2.2.1 mS.2.2.2.2.2.2.2.2.toNat = 0))
    have ea : smN (seeM mG mR mS 6) mS.2.2.2.2.2.2.2.2.toNat = smN (fun g => cif (satM mS g) (bI (hcM mG mR mS g mR.2.2.2.2.1 mS.2.2.2.2.2.2.2.2.toNat = 0)) 0) mS.2.2.2.2.2.2.2.2.toNat := by
      refine smN_congr _ (fun k _ _ => ?_)
      unfold seeM
      by_cases c : satM mS k
      · rw [cif_t c]
        exact bI_congr ⟨fun z => by rcases z.2 with y | y; · omega
                                    · exact y, fun z => ⟨c, Or.inr z⟩⟩
      · rw [cif_f c, bI_f (fun z => c z.1)]
    rw [ea, ← e]
    refine smN_congr _ (fun k k0 k1' => ?_)
    have hs := hl.2.2.1 k k0 (by omega)
    unfold snC
    rw [hc_eq hG hS' hR hs]
    rfl
  refine aw_post (c_all1 3 sb T G L O R P C B D S N (MA mT mG mR mU mP mO mS mN) β mR w hw k1 (rG_kW hG) hH k2) (fun r h' e => ?_)
  obtain ⟨rfl, rfl⟩ := e
  refine ⟨_, CA sb 1 T G L O R P C B D S N, BH 73 β, ?_, rfl, rfl, ?_⟩
  · have hv1 := hG.2.1.1
    have hv2 := hH.1
    have hv3 := hR.1
    exact cif_ind (P := inR) (fun _ => inR_c (by omega)) (fun _ => cif_ind (P := inR) (fun _ => inR_c (by omega)) (fun _ => cif_ind (P := inR) (fun _ => inR_c (by omega)) (fun _ => cif_ind (P := inR) (fun _ => inR_c (by omega)) (fun _ => cif_ind (P := inR) (fun _ => inR_c (by omega)) (fun _ => cif_ind (P := inR) (fun _ => inR_c (by omega)) (fun _ => cif_ind (P := inR) (fun _ => inR_c (by omega)) (fun _ => inR_c (by omega))))))))
  · refine m_all 6 (CA sb 1 T G L O R P C B D S N) mT mG mR mU mP mO mS mN (BH 73 β) w hw hR.2.2.2.1 hS'.1 hG.1 hU hF (fun c => ⟨?_, Inv_mk sb 1 T G L O R P C B D S N β mT mG mR mU mP mO mS mN h0⟩) (fun c => ⟨?_, Inv_mk sb 1 T G L O R P C B D S N β mT mG mR mU mP mO mS mN h0⟩) (fun c => ⟨?_, Inv_mk sb 1 T G L O R P C B D S N β mT mG mR mU mP mO mS mN h0⟩) (fun c => ⟨?_, Inv_mk sb 1 T G L O R P C B D S N β mT mG mR mU mP mO mS mN h0⟩) (fun c => ⟨?_, Inv_mk sb 1 T G L O R P C B D S N β mT mG mR mU mP (ordM mG mU mO) mS mN h0⟩) (fun c => ⟨?_, Inv_mk sb 1 T G L O R P C B D S N β mT mG mR mU mP mO mS mN h0⟩) (fun c => ⟨?_, Inv_mk sb 1 T G L O R P C B D S N β mT mG mR mU mP mO mS mN h0⟩)
    · rw [cif_t c, hG.2.1.1]
    · rw [cif_f (by omega), cif_t c, q1]
    · rw [cif_f (by omega), cif_f (by omega), cif_t c, hH.1]
    · rw [cif_f (by omega), cif_f (by omega), cif_f (by omega), cif_t c, q3]
    · rw [cif_f (by omega), cif_f (by omega), cif_f (by omega), cif_f (by omega), cif_t c, e1]
    · rcases c with c | c
      · subst c
        rw [cif_f (by omega), cif_f (by omega), cif_f (by omega), cif_f (by omega), cif_f (by omega), cif_t rfl, c5]
      · subst c
        rw [cif_f (by omega), cif_f (by omega), cif_f (by omega), cif_f (by omega), cif_f (by omega), cif_f (by omega), cif_t rfl, c6]
    · rw [cif_f (by omega), cif_f (by omega), cif_f (by omega), cif_f (by omega), cif_f (by omega), cif_f (by omega), cif_f (by omega)]

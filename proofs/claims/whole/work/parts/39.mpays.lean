/-! ===== what the model pays ===== -/
noncomputable def mvM (rw' pw : FN) (an g row place : Int) : Int := cif (an = 0) 0 (cif (row = 6) (cif (rw' g < 6) 1 0) (cif (rw' g < 6 ∧ rw' g = row ∧ pw g = place) 0 1))
theorem mvM_r (rw' pw : FN) (an g row place : Int) : 0 ≤ mvM rw' pw an g row place ∧ mvM rw' pw an g row place ≤ 1 := by
  unfold mvM
  by_cases h : an = 0
  · rw [cif_t h]; omega
  · rw [cif_f h]
    by_cases h2 : row = 6
    · rw [cif_t h2]
      by_cases h3 : rw' g < 6
      · rw [cif_t h3]; omega
      · rw [cif_f h3]; omega
    · rw [cif_f h2]
      by_cases h3 : rw' g < 6 ∧ rw' g = row ∧ pw g = place
      · rw [cif_t h3]; omega
      · rw [cif_f h3]; omega
def brM (mG : TyMG) (o : FN) (l i : Int) : Prop := 0 ≤ l ∧ ¬ mG.2.2.1 (32 * o l + o i) = 0
noncomputable def DM (mG : TyMG) (mR : TyMR) (o : FN) (n : Int) (rw' pw : FN) (an : Int) : DP := (n, fun i => 64 * mG.1 (6 * o i + 3) + mvM rw' pw an (o i) 6 0, fun i => mG.1 (6 * o i + 4), brM mG o, fun i r p => mvM rw' pw an (o i) r p, mR.2.2.2.1, mR.1, mR.2.2.2.2.2.1, mR.2.2.2.2.2.2)
def kR (mR : TyMR) : Prop := (0 ≤ mR.2.2.2.1 ∧ mR.2.2.2.1 ≤ 6) ∧ (∀ r, 0 ≤ r → r < mR.2.2.2.1 → (4 ≤ mR.1 r ∧ mR.1 r ≤ 40) ∧ (0 ≤ mR.2.1 r ∧ mR.2.1 r ≤ 300) ∧ (20 * (r + 1) ≤ mR.2.2.1 r ∧ mR.2.2.1 r ≤ 60 * (r + 1))) ∧ (∀ r, 0 ≤ r → r + 1 < mR.2.2.2.1 → mR.2.2.1 r + 20 ≤ mR.2.2.1 (r + 1)) ∧ (0 ≤ mR.2.2.2.2.1 ∧ mR.2.2.2.2.1 ≤ 300) ∧ (1 ≤ mR.2.2.2.2.2.1 ∧ mR.2.2.2.2.2.1 ≤ 4) ∧ (0 ≤ mR.2.2.2.2.2.2 ∧ mR.2.2.2.2.2.2 ≤ 1000)
theorem DM_k {mG : TyMG} {mR : TyMR} {o : FN} {n : Int} {rw' pw : FN} {an : Int} (hG : kG mG) (hR : kR mR) (hn : 0 ≤ n ∧ n ≤ 32) (ho : ∀ i, 0 ≤ i → i < n → 0 ≤ o i ∧ o i < mG.2.2.2) : kD (DM mG mR o n rw' pw an) := by
  obtain ⟨g0, g1, g2, g3, g4, g5⟩ := hG
  obtain ⟨r0, r1, r2, r3, r4, r5⟩ := hR
  refine ⟨hn, fun i i0 i1 => ?_, fun i i0 i1 => ?_, fun i r p => mvM_r _ _ _ _ _ _, r0, fun r r0' r1' => ?_, r4, r5⟩
  · have h := ho i i0 i1
    have a1 := g1 (6 * o i + 3)
    have a2 := g2 (o i) h.1 (by omega)
    have a3 := mvM_r rw' pw an (o i) 6 0
    show 0 ≤ 64 * mG.1 (6 * o i + 3) + mvM rw' pw an (o i) 6 0 ∧ 64 * mG.1 (6 * o i + 3) + mvM rw' pw an (o i) 6 0 ≤ 64001
    omega
  · have h := ho i i0 i1
    have a2 := g2 (o i) h.1 (by omega)
    have a3 := g3 (o i) h.1 h.2
    show 1 ≤ mG.1 (6 * o i + 4) ∧ mG.1 (6 * o i + 4) ≤ 6
    omega
  · have := (r1 r r0' r1').1
    show 0 ≤ mR.1 r ∧ mR.1 r ≤ 40
    omega
theorem m_moves {X : AX} (d : Nat) (a : AC49) (mT : TyT) (mG : TyMG) (mR : TyMR) (mU : TyMU) (mP : TyMP) (mO : TyO) (mS : TyMS) (mN : TyMN) (t : AH) (g row place an : Int) (hg : 0 ≤ g ∧ g < 32) (hrow : inR row) (hpl : inR place) (han : an = 0 ∨ an = 1) (hw : ∀ i, 0 ≤ i → i < 32 → (0 ≤ mS.2.2.1 i ∧ mS.2.2.1 i ≤ 7) ∧ (0 ≤ mS.2.2.2.1 i ∧ mS.2.2.2.1 i ≤ 40)) :
    AF X (d + 2) 0 0 128 [rf 49, iv g, iv row, iv place, iv an] (CV a (MH mT mG mR mU mP mO mS mN t)) (some (iv (mvM mS.2.2.1 mS.2.2.2.1 an g row place))) (CV a (MH mT mG mR mU mP mO mS mN t)) := by
  unfold inR at hrow hpl
  have h1 := hw g hg.1 hg.2
  unfold mvM
  refine aw_tree (I0_ok X _) [(false, 49), (true, 24)] [] rfl ?_
  repeat' (first | refine And.intro ?_ ?_ | (refine aImp_e0 ?_; intro _) | (refine aImp_n0 ?_; intro _) | (refine aImp_i ?_; intro _))
  all_goals (try (first | omega | exact bI_01 _ | exact bI_lo _ | exact bI_hi _ | exact bI_hi' _ | exact trivial | exact Or.inl rfl | exact Or.inr rfl | (exfalso; omega)))
  all_goals first
    | rfl
    | rw [cif_t (by omega)]
    | rw [cif_f (by omega), cif_t (by omega), cif_t (by omega)]
    | rw [cif_f (by omega), cif_t (by omega), cif_f (by omega)]
    | rw [cif_f (by omega), cif_f (by omega), cif_t (by omega)]
    | rw [cif_f (by omega), cif_f (by omega), cif_f (by omega)]
theorem m_barred {X : AX} (d : Nat) (a : AC49) (mT : TyT) (mG : TyMG) (mR : TyMR) (mU : TyMU) (mP : TyMP) (mO : TyO) (mS : TyMS) (mN : TyMN) (t : AH) (l i : Int) (hl : -1 ≤ l ∧ l < 32) (hi : 0 ≤ i ∧ i < 32) (ho : ∀ j, (0 ≤ l ∧ j = l) ∨ j = i → 0 ≤ mO.1 j ∧ mO.1 j < 32) (hb : ∀ j, mG.2.2.1 j = 0 ∨ mG.2.2.1 j = 1) :
    AF X (d + 2) 0 0 129 [rf 49, iv l, iv i] (CV a (MH mT mG mR mU mP mO mS mN t)) (some (iv (bI (brM mG mO.1 l i)))) (CV a (MH mT mG mR mU mP mO mS mN t)) := by
  have h1 := hb (32 * mO.1 l + mO.1 i)
  have h2 := ho i (Or.inr rfl)
  unfold brM
  by_cases hl0 : 0 ≤ l
  · have h3 := ho l (Or.inl ⟨hl0, rfl⟩)
    refine aw_tree (I0_ok X _) [(false, 49), (true, 24)] [] rfl ?_
    repeat' (first | refine And.intro ?_ ?_ | (refine aImp_e0 ?_; intro _) | (refine aImp_n0 ?_; intro _) | (refine aImp_i ?_; intro _))
    all_goals (try (first | omega | exact bI_01 _ | exact bI_lo _ | exact bI_hi _ | exact bI_hi' _ | exact trivial | exact Or.inl rfl | exact Or.inr rfl | (exfalso; omega)))
    all_goals first | rfl | rw [bI_f (by omega)] | rw [bI_t (by omega)]
  · refine aw_tree (I0_ok X _) [(false, 49), (true, 24)] [] rfl ?_
    repeat' (first | refine And.intro ?_ ?_ | (refine aImp_e0 ?_; intro _) | (refine aImp_n0 ?_; intro _) | (refine aImp_i ?_; intro _))
    all_goals (try (first | omega | exact bI_01 _ | exact bI_lo _ | exact bI_hi _ | exact bI_hi' _ | exact trivial | exact Or.inl rfl | exact Or.inr rfl | (exfalso; omega)))
    all_goals first | rfl | rw [bI_f (by omega)] | rw [bI_t (by omega)]
noncomputable def begM (mG : TyMG) (o : FN) (fr l i row place to : Int) : Int := cif (l < 0 ∨ ¬ to = row) 0 (place + cif (brM mG o l i) fr 0)
theorem begM_V {mG : TyMG} {mR : TyMR} {o : FN} {n : Int} {rw' pw : FN} {an l i row place to : Int} : begM mG o mR.2.2.2.2.2.1 l i row place to = begV (DM mG mR o n rw' pw an) (brM mG o l i) row (cif (l < 0) 0 place) to := by
  unfold begM begV
  by_cases h : to = row
  · rw [cif_t h]
    by_cases h2 : l < 0
    · rw [cif_t (Or.inl h2), cif_t h2, cif_f (fun k => by have := k.1; omega)]; rfl
    · rw [cif_f (by omega), cif_f h2]
      rfl
  · rw [cif_f h, cif_t (Or.inr h)]
theorem begM_r {mG : TyMG} {o : FN} {fr l i row place to : Int} (hf : 0 ≤ fr ∧ fr ≤ 4) (hp : 0 ≤ place ∧ place ≤ 41) : 0 ≤ begM mG o fr l i row place to ∧ begM mG o fr l i row place to ≤ 45 := by
  unfold begM
  by_cases h : l < 0 ∨ ¬ to = row
  · rw [cif_t h]; omega
  · rw [cif_f h]
    by_cases b : brM mG o l i
    · rw [cif_t b]; omega
    · rw [cif_f b]; omega
theorem m_begins {X : AX} (d : Nat) (a : AC49) (mT : TyT) (mG : TyMG) (mR : TyMR) (mU : TyMU) (mP : TyMP) (mO : TyO) (mS : TyMS) (mN : TyMN) (t : AH) (i l row place to : Int) (hl : -1 ≤ l ∧ l < 32) (hi : 0 ≤ i ∧ i < 32) (hrow : 0 ≤ row ∧ row ≤ 6) (hto : 0 ≤ to ∧ to ≤ 6) (ho : ∀ j, (0 ≤ l ∧ j = l) ∨ j = i → 0 ≤ mO.1 j ∧ mO.1 j < 32) (hb : ∀ j, mG.2.2.1 j = 0 ∨ mG.2.2.1 j = 1) :
    AF X (d + 3) 0 0 130 [rf 49, iv i, iv l, iv row, iv place, iv to] (CV a (MH mT mG mR mU mP mO mS mN t)) (some (iv (begM mG mO.1 mR.2.2.2.2.2.1 l i row place to))) (CV a (MH mT mG mR mU mP mO mS mN t)) := by
  unfold begM
  refine aw_tree (I0_ok X _) [(false, 49), (true, 24)] [] rfl ?_
  repeat' (first | refine And.intro ?_ ?_ | (refine aImp_e0 ?_; intro _) | (refine aImp_n0 ?_; intro _) | (refine aImp_i ?_; intro _))
  all_goals (try (first | omega | exact bI_01 _ | exact bI_lo _ | exact bI_hi _ | exact bI_hi' _ | exact trivial | exact Or.inl rfl | exact Or.inr rfl | (exfalso; omega)))
  all_goals first
    | rfl
    | rw [cif_t (by omega)]
    | (refine aw_cf0 (m_barred (d + 0) a mT mG mR mU mP mO mS mN t l i hl hi ho hb) rfl ?_
       rw [cif_f (by omega)]
       refine aw_tree (I0_ok X _) [(false, 49), (true, 24)] [] rfl ?_
       repeat' (first | refine And.intro ?_ ?_ | (refine aImp_e0 ?_; intro _) | (refine aImp_n0 ?_; intro _) | (refine aImp_i ?_; intro _))
       all_goals (try (first | omega | exact bI_01 _ | exact bI_lo _ | exact bI_hi _ | exact bI_hi' _ | exact trivial | exact Or.inl rfl | exact Or.inr rfl | (exfalso; omega)))
       all_goals first | rfl | (next h => rw [cif_t h]) | (next h => rw [cif_f h]))
noncomputable def payM (D : DP) (f : FN) (i l row place to : Int) : Int := optV D i (dB D l i) row (cif (l < 0) 0 place) (f (((33 * (i + 1) + l + 1) * 6 + row) * 41 + place)) (fun r e => f (((33 * (i + 1) + i + 1) * 6 + r) * 41 + e)) to
theorem payM_eq {mG : TyMG} {mR : TyMR} {o : FN} {n : Int} {rw' pw f : FN} {an i l row place to : Int} : payM (DM mG mR o n rw' pw an) f i l row place to = cif (to = 6) (64 * mG.1 (6 * o i + 3) + mvM rw' pw an (o i) 6 0 + f (((33 * (i + 1) + l + 1) * 6 + row) * 41 + place)) (cif (to < row ∨ mR.2.2.2.1 ≤ to ∨ mR.1 to < begM mG o mR.2.2.2.2.2.1 l i row place to + mG.1 (6 * o i + 4)) 1000000000
    (cif (to = row ∧ brM mG o l i) (64 * mR.2.2.2.2.2.2) 0 + mvM rw' pw an (o i) to (begM mG o mR.2.2.2.2.2.1 l i row place to) + f (((33 * (i + 1) + i + 1) * 6 + to) * 41 + (begM mG o mR.2.2.2.2.2.1 l i row place to + mG.1 (6 * o i + 4))))) := by
  rw [begM_V (mR := mR) (n := n) (rw' := rw') (pw := pw) (an := an)]
  rfl
set_option maxRecDepth 100000 in
theorem m_pays {X : AX} (d : Nat) (a : AC49) (mT : TyT) (mG : TyMG) (mR : TyMR) (mU : TyMU) (mP : TyMP) (mO : TyO) (mS : TyMS) (mN : TyMN) (t : AH) (i l row place to an : Int) (hl : -1 ≤ l ∧ l < i) (hi : 0 ≤ i ∧ i < 32) (hrow : 0 ≤ row ∧ row < 6) (hpl : 0 ≤ place ∧ place ≤ 40) (hto : 0 ≤ to ∧ to ≤ 6) (han : an = 0 ∨ an = 1) (ho : ∀ j, 0 ≤ j → j ≤ i → 0 ≤ mO.1 j ∧ mO.1 j < 32) (hG : kG mG) (hR : kR mR) (hw : ∀ i, 0 ≤ i → i < 32 → (0 ≤ mS.2.2.1 i ∧ mS.2.2.1 i ≤ 7) ∧ (0 ≤ mS.2.2.2.1 i ∧ mS.2.2.2.1 i ≤ 40)) :
    AF X (d + 4) 0 0 131 [rf 49, iv i, iv l, iv row, iv place, iv to, iv an] (CV a (MH mT mG mR mU mP mO mS mN t)) (some (iv (payM (DM mG mR mO.1 mO.2 mS.2.2.1 mS.2.2.2.1 an) mS.2.2.2.2.1 i l row place to))) (CV a (MH mT mG mR mU mP mO mS mN t)) := by
  have hG' := hG
  obtain ⟨g0, g1, g2, g3, g4, g5⟩ := hG'
  have hR' := hR
  obtain ⟨r0, r1, r2, r3, r4, r5⟩ := hR'
  have oi := ho i hi.1 (by omega)
  have ob : ∀ j, (0 ≤ l ∧ j = l) ∨ j = i → 0 ≤ mO.1 j ∧ mO.1 j < 32 := fun j h => ho j (by omega) (by omega)
  have w2 := g2 (mO.1 i) oi.1 (by omega)
  have w4 := g1 (6 * mO.1 i + 4)
  have hbr := begM_r (mG := mG) (o := mO.1) (l := l) (i := i) (row := row) (to := to) (fr := mR.2.2.2.2.2.1) (place := place) (by omega) (by omega)
  rw [payM_eq]
  by_cases h6 : to = 6
  · rw [cif_t h6]
    refine aw_tree (I0_ok X _) [(false, 49), (true, 24)] [] rfl ?_
    repeat' (first | refine And.intro ?_ ?_ | (refine aImp_e0 ?_; intro _) | (refine aImp_n0 ?_; intro _) | (refine aImp_i ?_; intro _))
    all_goals (try (first | omega | exact bI_01 _ | exact bI_lo _ | exact bI_hi _ | exact bI_hi' _ | exact trivial | exact Or.inl rfl | exact Or.inr rfl | (exfalso; omega)))
    refine aw_cf0 (m_moves _ a mT mG mR mU mP mO mS mN t (mO.1 i) 6 0 an oi (by unfold inR; omega) (by unfold inR; omega) han hw) rfl ?_
    refine aw_tree (I0_ok X _) [(false, 49), (true, 24)] [] rfl ?_
    repeat' (first | refine And.intro ?_ ?_ | (refine aImp_e0 ?_; intro _) | (refine aImp_n0 ?_; intro _) | (refine aImp_i ?_; intro _))
    all_goals (try (first | omega | exact bI_01 _ | exact bI_lo _ | exact bI_hi _ | exact bI_hi' _ | exact trivial | exact Or.inl rfl | exact Or.inr rfl | (exfalso; omega)))
    all_goals rfl
  · rw [cif_f h6]
    refine aw_tree (I0_ok X _) [(false, 49), (true, 24)] [] rfl ?_
    repeat' (first | refine And.intro ?_ ?_ | (refine aImp_e0 ?_; intro _) | (refine aImp_n0 ?_; intro _) | (refine aImp_i ?_; intro _))
    all_goals (try (first | omega | exact bI_01 _ | exact bI_lo _ | exact bI_hi _ | exact bI_hi' _ | exact trivial | exact Or.inl rfl | exact Or.inr rfl | (exfalso; omega)))
    refine aw_cf0 (m_begins _ a mT mG mR mU mP mO mS mN t i l row place to (by omega) (by omega) (by omega) hto ob g5) rfl ?_
    by_cases hx : to < row ∨ mR.2.2.2.1 ≤ to
    · rw [cif_t (by
        rcases hx with h | h
        · exact Or.inl h
        · exact Or.inr (Or.inl h))]
      refine aw_tree (I0_ok X _) [(false, 49), (true, 24)] [] rfl ?_
      repeat' (first | refine And.intro ?_ ?_ | (refine aImp_e0 ?_; intro _) | (refine aImp_n0 ?_; intro _) | (refine aImp_i ?_; intro _))
      all_goals (try (first | omega | exact bI_01 _ | exact bI_lo _ | exact bI_hi _ | exact bI_hi' _ | exact trivial | exact Or.inl rfl | exact Or.inr rfl | (exfalso; omega)))
      all_goals rfl
    · have r1t := r1 to hto.1 (by omega)
      by_cases hfit : mR.1 to < begM mG mO.1 mR.2.2.2.2.2.1 l i row place to + mG.1 (6 * mO.1 i + 4)
      · rw [cif_t (Or.inr (Or.inr hfit))]
        refine aw_tree (I0_ok X _) [(false, 49), (true, 24)] [] rfl ?_
        repeat' (first | refine And.intro ?_ ?_ | (refine aImp_e0 ?_; intro _) | (refine aImp_n0 ?_; intro _) | (refine aImp_i ?_; intro _))
        all_goals (try (first | omega | exact bI_01 _ | exact bI_lo _ | exact bI_hi _ | exact bI_hi' _ | exact trivial | exact Or.inl rfl | exact Or.inr rfl | (exfalso; omega)))
        all_goals rfl
      · rw [cif_f (show ¬ (to < row ∨ mR.2.2.2.1 ≤ to ∨ mR.1 to < begM mG mO.1 mR.2.2.2.2.2.1 l i row place to + mG.1 (6 * mO.1 i + 4)) from by omega)]
        have fin : ∀ z : Int, z = cif (to = row ∧ brM mG mO.1 l i) (64 * mR.2.2.2.2.2.2) 0 → AW X (d + 4) 0 0 131 85 [rf 49, iv i, iv l, iv row, iv place, iv to, iv an, iv (mO.1 i), iv (begM mG mO.1 mR.2.2.2.2.2.1 l i row place to), iv (mG.1 (6 * mO.1 i + 4))] [iv z] (CV a (MH mT mG mR mU mP mO mS mN t)) (fun r' h'' => r' = some (iv (cif (to = row ∧ brM mG mO.1 l i) (64 * mR.2.2.2.2.2.2) 0 + mvM mS.2.2.1 mS.2.2.2.1 an (mO.1 i) to (begM mG mO.1 mR.2.2.2.2.2.1 l i row place to) + mS.2.2.2.2.1 (((33 * (i + 1) + i + 1) * 6 + to) * 41 + (begM mG mO.1 mR.2.2.2.2.2.1 l i row place to + mG.1 (6 * mO.1 i + 4))))) ∧ h'' = CV a (MH mT mG mR mU mP mO mS mN t)) := by
          intro z hz
          rw [← hz]
          refine aw_tree (I0_ok X _) [(false, 49), (true, 24)] [] rfl ?_
          refine aw_cf0 (m_moves _ a mT mG mR mU mP mO mS mN t (mO.1 i) to (begM mG mO.1 mR.2.2.2.2.2.1 l i row place to) an oi (by unfold inR; omega) (by unfold inR; omega) han hw) rfl ?_
          refine aw_tree (I0_ok X _) [(false, 49), (true, 24)] [] rfl ?_
          repeat' (first | refine And.intro ?_ ?_ | (refine aImp_e0 ?_; intro _) | (refine aImp_n0 ?_; intro _) | (refine aImp_i ?_; intro _))
          all_goals (try (first | omega | exact bI_01 _ | exact bI_lo _ | exact bI_hi _ | exact bI_hi' _ | exact trivial | exact Or.inl rfl | exact Or.inr rfl | (exfalso; omega)))
          all_goals rfl
        refine aw_tree (I0_ok X _) [(false, 49), (true, 24)] [85] rfl ?_
        repeat' (first | refine And.intro ?_ ?_ | (refine aImp_e0 ?_; intro _) | (refine aImp_n0 ?_; intro _) | (refine aImp_i ?_; intro _))
        all_goals (try (first | omega | exact bI_01 _ | exact bI_lo _ | exact bI_hi _ | exact bI_hi' _ | exact trivial | exact Or.inl rfl | exact Or.inr rfl | (exfalso; omega)))
        · next hne => exact fin 0 (cif_f (fun k => hne k.1) _ _).symm
        · next hne =>
          refine aw_cf0 (m_barred _ a mT mG mR mU mP mO mS mN t l i (by omega) (by omega) ob g5) rfl ?_
          refine aw_tree (I0_ok X _) [(false, 49), (true, 24)] [85] rfl ?_
          repeat' (first | refine And.intro ?_ ?_ | (refine aImp_e0 ?_; intro _) | (refine aImp_n0 ?_; intro _) | (refine aImp_i ?_; intro _))
          all_goals (try (first | omega | exact bI_01 _ | exact bI_lo _ | exact bI_hi _ | exact bI_hi' _ | exact trivial | exact Or.inl rfl | exact Or.inr rfl | (exfalso; omega)))
          · next hb => exact fin 0 (cif_f (fun k => hb k.2) _ _).symm
          · next hb => exact fin _ (cif_t ⟨by omega, hb⟩ _ _).symm

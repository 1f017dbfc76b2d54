/-! ===== the office against the model ===== -/
theorem cif_ind {α : Type} {P : α → Prop} {c : Prop} {a b : α} (ha : c → P a) (hb : ¬ c → P b) : P (cif c a b) := by
  by_cases h : c
  · rw [cif_t h]; exact ha h
  · rw [cif_f h]; exact hb h
theorem prs_r {tp : FN} {n : Int} : ∀ (f : Nat) (due p sg : Int) (pb : PB), 0 ≤ p ∧ p ≤ n → -1 ≤ (prs tp n f due p sg pb).2.1 ∧ (prs tp n f due p sg pb).2.1 ≤ n := by
  intro f
  induction f with
  | zero =>
    intro due p sg pb hp
    show -1 ≤ p ∧ p ≤ n
    omega
  | succ f ih =>
    intro due p sg pb hp
    have s := sk_ok (tp := tp) (n := n) _ p rfl
    have s1 := s.1
    have s2 := s.2.1 hp.2
    have hx : ¬ tk tp n (sk tp n p) = 18 → 0 ≤ nx tp n (sk tp n p) ∧ nx tp n (sk tp n p) ≤ n := by
      intro h
      have hlt : sk tp n p < n := by
        by_cases q : n ≤ sk tp n p
        · exact absurd (tk_end q) h
        · omega
      have := nx_ok (tp := tp) hlt
      omega
    rw [prs]
    refine cif_ind (P := fun r : PR => -1 ≤ r.2.1 ∧ r.2.1 ≤ n) (fun _ => ⟨by dsimp only; omega, by dsimp only; omega⟩) (fun h0 => ?_)
    repeat' (refine cif_ind (P := fun r : PR => -1 ≤ r.2.1 ∧ r.2.1 ≤ n) (fun _ => ?_) (fun _ => ?_))
    all_goals first
      | exact ih _ _ _ _ (hx (by omega))
      | exact ⟨by dsimp only; omega, by dsimp only; omega⟩
def bk : Nat → TyB → TyB → TyB
  | 0, B, _ => B
  | _ + 1, _, D => D
def stt : Nat → TyS → TyS → TyS
  | 0, S, _ => S
  | _ + 1, _, N => N
def rT (T mT : TyT) : Prop := T.2 = mT.2 ∧ (0 ≤ T.2 ∧ T.2 ≤ 200) ∧ (∀ i, bAnd (T.1 i) 255 = mT.1 i) ∧ (∀ i, 0 ≤ mT.1 i ∧ mT.1 i ≤ 255)
def rG (G : TyG) (mG : TyMG) : Prop := kG mG ∧ rGv G mG ∧ rGb G mG ∧ G.2.2.2.2.2.2.2.2.2.1 = smN mG.2.1 mG.2.2.2.toNat ∧ G.2.2.2.2.2.2.2.2.2.2 = smN (bsM mG) mG.2.2.2.toNat ∧ (∀ g, mG.2.2.2 ≤ g → g < 32 → mG.2.1 g = 0) ∧ (∀ a b, 0 ≤ a → a < 32 → 0 ≤ b → b < 32 → mG.2.2.1 (32 * a + b) = mG.2.2.1 (32 * b + a)) ∧ (∀ a b, mG.2.2.2 ≤ a → a < 32 → 0 ≤ b → b < 32 → mG.2.2.1 (32 * a + b) = 0)
def kF (mR : TyMR) : Prop := ∀ r, 0 ≤ r → r < 6 → (0 ≤ mR.2.1 r ∧ mR.2.1 r ≤ 300) ∧ (0 ≤ mR.2.2.1 r ∧ mR.2.2.1 r ≤ 400)
def rF (R : TyR) (mP : TyMP) : Prop := R.1 = mP.2.2.2.1 ∧ R.2.1 = mP.2.2.2.2.1 ∧ (R.2.2.2.2.2 = 0 ∨ R.2.2.2.2.2 = 1) ∧ (0 ≤ R.1 ∧ R.1 ≤ 2) ∧ (-1 ≤ R.2.1 ∧ R.2.1 ≤ 200)
def rS (S : TyS) (mS : TyMS) (mG : TyMG) (rows : Int) : Prop := kS mS ∧ S.2.2.2.2.2.2 = mS.2.2.2.2.2.1 ∧ (S.2.2.2.2.1 = mS.2.2.2.2.2.2.1 ∧ 0 ≤ mS.2.2.2.2.2.2.1 ∧ mS.2.2.2.2.2.2.1 ≤ rows) ∧ (S.2.2.2.2.2.1 = mS.2.2.2.2.2.2.2.1 ∧ 0 ≤ S.2.2.2.2.2.1 ∧ S.2.2.2.2.2.1 ≤ 32) ∧ mS.2.2.2.2.2.2.2.2 ≤ mG.2.2.2 ∧
  (∀ g, 0 ≤ g → g < 32 → (-1 ≤ S.2.1 g ∧ S.2.1 g ≤ 40) ∧ ((satM mS g ∧ S.1 g = mS.1 g ∧ S.2.1 g = mS.2.1 g) ∨ (mS.2.2.2.2.2.1 = 1 ∧ g < mS.2.2.2.2.2.2.2.2 ∧ mS.1 g = 6 ∧ S.1 g = -1) ∨ (¬ (mS.2.2.2.2.2.1 = 1 ∧ g < mS.2.2.2.2.2.2.2.2 ∧ mS.1 g ≤ 6) ∧ S.1 g = -2))) ∧
  (∀ g, satM mS g → mS.1 g < mS.2.2.2.2.2.2.1) ∧ rLn mG mS S.2.2.1 S.2.2.2.1 ∧ (mS.2.2.2.2.2.1 = 0 → mS.2.2.2.2.2.2.1 = 0)
def rN (C : TyC) (mN : TyMN) (mG : TyMG) : Prop := (mN.2.2.2.2.1 = 0 ∨ mN.2.2.2.2.1 = 1) ∧ (0 ≤ mN.2.2.2.2.2 ∧ mN.2.2.2.2.2 ≤ mG.2.2.2) ∧ (∀ i, 0 ≤ i → i < 32 → -1 ≤ mN.2.2.1 i ∧ mN.2.2.1 i ≤ 32) ∧
  ∀ g, 0 ≤ g → g < 32 → ((mN.2.2.2.2.1 = 1 ∧ g < mN.2.2.2.2.2 ∧ ¬ mN.2.2.1 g = -1) ∧ C.1 g = mN.1 g ∧ C.2.1 g = mN.2.1 g ∧ C.2.2.1 g = mN.2.2.1 g ∧ (0 ≤ C.1 g ∧ C.1 g ≤ 1000) ∧ (0 ≤ C.2.1 g ∧ C.2.1 g ≤ 1000)) ∨ (¬ (mN.2.2.2.2.1 = 1 ∧ g < mN.2.2.2.2.2 ∧ ¬ mN.2.2.1 g = -1) ∧ C.1 g = -1 ∧ C.2.1 g = -1 ∧ C.2.2.1 g = -1)
def kX (S N : TyS) : Prop := ∀ g, ¬ (0 ≤ g ∧ g < 32) → S.1 g = 0 ∧ N.1 g = 0
def RR (sb ss : Nat) (T : TyT) (G : TyG) (L : TyL) (O : TyO) (R : TyR) (C : TyC) (B D : TyB) (S N : TyS) (β : List TyBn) (mT : TyT) (mG : TyMG) (mR : TyMR) (mU : TyMU) (mP : TyMP) (mS : TyMS) (mN : TyMN) : Prop :=
  (sb = 0 ∨ sb = 1) ∧ (ss = 0 ∨ ss = 1) ∧ rT T mT ∧ rG G mG ∧ rH L β mR ∧ kF mR ∧ ordI (ahM mG mU) (inM mG mU) O.1 O.2 ∧ rF R mP ∧ kU mU ∧ rB (bk sb B D) mU ∧ rS (stt ss S N) mS mG mR.2.2.2.1 ∧ rN C mN mG ∧ kX S N
def Inv (h : AH) : Prop := ∃ (sb ss : Nat) (T : TyT) (G : TyG) (L : TyL) (O : TyO) (R : TyR) (P : TyP) (C : TyC) (B D : TyB) (S N : TyS) (β : List TyBn) (mT : TyT) (mG : TyMG) (mR : TyMR) (mU : TyMU) (mP : TyMP) (mO : TyO) (mS : TyMS) (mN : TyMN), h = (CV (CA sb ss T G L O R P C B D S N) (MV (MA mT mG mR mU mP mO mS mN) (BH 73 β))) ∧ RR sb ss T G L O R C B D S N β mT mG mR mU mP mS mN
/-- the office's call, then the model's: one answer, and the two stand as they should -/
def JS (X : AX) (kc ks mi mj : Nat) (vs : List AV) (h : AH) (m : AC24) : Prop := AW X 11 kc ks mi 0 (aEntry mi (rf 0 :: vs)) [] h (fun r h' => ∃ (z : Int) (a : AC49) (t : AH), inR z ∧ r = some (iv z) ∧ h' = CV a (MV m t) ∧ AW X 11 0 0 mj 0 (aEntry mj (rf 49 :: vs)) [] h' (fun r' h'' => r' = some (iv z) ∧ Inv h''))
theorem inR_c {z : Int} (h : -100000 ≤ z ∧ z ≤ 1000000) : inR z := ⟨by omega, by omega⟩
theorem rG_kW {G : TyG} {mG : TyMG} (h : rG G mG) : kW G := by
  intro g g0 g1
  have h1 := h.2.1.2.1 g g0 g1
  have h2 := h.1.2.2.1 g g0 g1
  have h3 := h.1.2.1 (6 * g + 4)
  have h4 := h.1.2.1 (6 * g + 5)
  omega
theorem rS_k {S : TyS} {mS : TyMS} {mG : TyMG} {rows : Int} (h : rS S mS mG rows) (hr : 0 ≤ rows ∧ rows ≤ 6) : kL S ∧ lnR S rows ∧ (∀ g, 0 ≤ g → g < 32 → S.1 g < rows) := by
  obtain ⟨h1, h2, h3, h4, h5, h6, h7, h8, h9⟩ := h
  have hgt := h1.2.2.2
  have hall : ∀ g, 0 ≤ g → g < 32 → (-2 ≤ S.1 g ∧ S.1 g < rows) := by
    intro g g0 g1
    rcases (h6 g g0 g1).2 with ⟨a, b, c⟩ | ⟨a, b, c, e⟩ | ⟨a, b⟩
    · have := h7 g a
      have := h1.1 g
      omega
    · omega
    · omega
  have hsat : ∀ g, satM mS g → 0 ≤ g ∧ g < 32 := fun g hg => ⟨hg.2.1, by have := hg.2.2.1; omega⟩
  refine ⟨⟨h8.1, fun i i0 i1 => hsat _ (h8.2.2.1 i i0 i1), fun g g0 g1 => ⟨?_, (h6 g g0 g1).1⟩⟩, fun i i0 i1 => ?_, fun g g0 g1 => (hall g g0 g1).2⟩
  · have := hall g g0 g1
    omega
  · have hs := h8.2.2.1 i i0 i1
    have hr := hsat _ hs
    refine ⟨?_, (hall _ hr.1 hr.2).2⟩
    rcases (h6 _ hr.1 hr.2).2 with ⟨a, b, c⟩ | ⟨a, b, c, e⟩ | ⟨a, b⟩
    · have := h1.1 (S.2.2.1 i)
      omega
    · have := hs.2.2.2
      omega
    · have q := hs.2.2.2
      exact absurd ⟨hs.1, hs.2.2.1, by omega⟩ a
theorem rS_sat {S : TyS} {mS : TyMS} {mG : TyMG} {rows : Int} (h : rS S mS mG rows) {g : Int} (hg : satM mS g) : S.1 g = mS.1 g ∧ S.2.1 g = mS.2.1 g := by
  obtain ⟨h1, h2, h3, h4, h5, h6, h7, h8, h9⟩ := h
  have hgt := h1.2.2.2
  obtain ⟨c1, c2, c3, c4⟩ := hg
  rcases (h6 g c2 (by omega)).2 with ⟨a, b, c⟩ | ⟨a, b, c, e⟩ | ⟨a, b⟩
  · exact ⟨b, c⟩
  · omega
  · exact absurd ⟨c1, c3, by omega⟩ a
theorem rS_se {S : TyS} {mS : TyMS} {mG : TyMG} {rows : Int} (h : rS S mS mG rows) (g : Int) : seC S g ↔ satM mS g := by
  constructor
  · intro hs
    obtain ⟨⟨c1, c2⟩, c3, c4⟩ := hs
    rcases (h.2.2.2.2.2.1 g c1 (by omega)).2 with ⟨a, b, c⟩ | ⟨a, b, c, e⟩ | ⟨a, b⟩
    · exact a
    · exact absurd e c4
    · exact absurd b c3
  · intro hs
    have h1 := rS_sat h hs
    have h2 := h.1.1 g
    have h3 := h.1.2.2.2
    have h4 := hs.2.1
    have h5 := hs.2.2.1
    exact ⟨⟨h4, by omega⟩, by omega, by omega⟩
theorem rO_eq {mG : TyMG} {mU : TyMU} {mO O : TyO} (hG : kG mG) (hO : ordI (ahM mG mU) (inM mG mU) O.1 O.2) : O.2 = (ordM mG mU mO).2 ∧ (∀ i, 0 ≤ i → i < O.2 → O.1 i = (ordM mG mU mO).1 i) ∧ O.2 ≤ mG.2.2.2 ∧ (∀ i, 0 ≤ i → i < O.2 → (0 ≤ O.1 i ∧ O.1 i < mG.2.2.2) ∧ inM mG mU (O.1 i)) := by
  obtain ⟨ho, hle, _⟩ := ordM_ok (mG := mG) (mU := mU) (mO := mO) hG
  obtain ⟨e1, e2⟩ := ordI_uniq (ahM_sto mG mU) hO ho
  exact ⟨e1, e2, by omega, fun i i0 i1 => ⟨(hO.2.2.1 i i0 i1).1, hO.2.2.1 i i0 i1⟩⟩

/-! ===== a line of those who sit ===== -/
theorem smN_congr {e e' : Int → Int} : ∀ (n : Nat), (∀ k, 0 ≤ k → k < (n : Int) → e k = e' k) → smN e n = smN e' n := by
  intro n
  induction n with
  | zero => intro _; rfl
  | succ n ih =>
    intro h
    rw [smN, smN, ih (fun k k0 k1 => h k k0 (by push_cast; omega)), h n (by omega) (by push_cast; omega)]
theorem smN_add {e e' e'' : Int → Int} : ∀ (n : Nat), (∀ k, 0 ≤ k → k < (n : Int) → e'' k = e k + e' k) → smN e'' n = smN e n + smN e' n := by
  intro n
  induction n with
  | zero => intro _; rfl
  | succ n ih =>
    intro h
    rw [smN, smN, smN, ih (fun k k0 k1 => h k k0 (by push_cast; omega)), h n (by omega) (by push_cast; omega)]
    omega
theorem smN_zero {e : Int → Int} : ∀ (n : Nat), (∀ k, 0 ≤ k → k < (n : Int) → e k = 0) → smN e n = 0 := by
  intro n
  induction n with
  | zero => intro _; rfl
  | succ n ih =>
    intro h
    rw [smN, ih (fun k k0 k1 => h k k0 (by push_cast; omega)), h n (by omega) (by push_cast; omega)]
    rfl
theorem smN_one {a v : Int} (ha : 0 ≤ a) : ∀ (n : Nat), smN (fun g => cif (g = a) v 0) n = cif (a < n) v 0 := by
  intro n
  induction n with
  | zero => rw [cif_f (by push_cast; omega)]; rfl
  | succ n ih =>
    rw [smN, ih]
    by_cases h : (n : Int) = a
    · rw [cif_f (by omega), cif_t h, cif_t (by push_cast; omega)]; omega
    · rw [cif_f h]
      by_cases h2 : a < n
      · rw [cif_t h2, cif_t (by push_cast; omega)]; omega
      · rw [cif_f h2, cif_f (by push_cast; omega)]; omega
theorem smN_line {e : Int → Int} {n : Nat} : ∀ (m : Nat) (p : Int → Prop) (f : FN), (∀ i j, 0 ≤ i → i < j → j < (m : Int) → f i ≠ f j) → (∀ i, 0 ≤ i → i < (m : Int) → p (f i)) → (∀ g, p g → ∃ i, 0 ≤ i ∧ i < (m : Int) ∧ f i = g) → (∀ g, p g → 0 ≤ g ∧ g < (n : Int)) → smN (fun i => e (f i)) m = smN (fun g => cif (p g) (e g) 0) n := by
  intro m
  induction m with
  | zero =>
    intro p f h1 h2 h3 h4
    rw [smN_zero (e := fun g => cif (p g) (e g) 0) n (fun k k0 k1 => cif_f (fun hp => by
      obtain ⟨i, i0, i1, _⟩ := h3 k hp
      push_cast at i1
      omega) _ _)]
    rfl
  | succ m ih =>
    intro p f h1 h2 h3 h4
    have hpm := h2 m (by omega) (by push_cast; omega)
    have hr := h4 _ hpm
    have e1 := ih (fun g => p g ∧ g ≠ f m) f (fun i j a b c => h1 i j a b (by push_cast; omega)) (fun i i0 i1 => ⟨h2 i i0 (by push_cast; omega), h1 i m i0 i1 (by push_cast; omega)⟩) (fun g hg => by
      obtain ⟨i, i0, i1, i2⟩ := h3 g hg.1
      refine ⟨i, i0, ?_, i2⟩
      have : i ≠ m := fun q => hg.2 (by rw [← i2, q])
      push_cast at i1
      omega) (fun g hg => h4 g hg.1)
    rw [smN, e1]
    have e2 := smN_one (a := f m) (v := e (f m)) hr.1 n
    rw [cif_t hr.2] at e2
    have e3 := smN_add (e := fun g => cif (p g ∧ g ≠ f m) (e g) 0) (e' := fun g => cif (g = f m) (e (f m)) 0) (e'' := fun g => cif (p g) (e g) 0) n (fun k k0 k1 => by
      by_cases hk : k = f m
      · subst hk
        rw [cif_t hpm, cif_f (fun q => q.2 rfl), cif_t rfl]
        omega
      · rw [cif_f hk]
        by_cases hp : p k
        · rw [cif_t hp, cif_t ⟨hp, hk⟩]; omega
        · rw [cif_f hp, cif_f (fun q => hp q.1)]; rfl)
    rw [e3, e2]
/-- a sits before b, both in one line -/
def bef (mG : TyMG) (mS : TyMS) (a b : Int) : Prop := mS.1 a < mS.1 b ∨ (mS.1 a = mS.1 b ∧ mS.2.1 a + mG.1 (6 * a + 4) ≤ mS.2.1 b)
/-- the line of a seating -/
def rLn (mG : TyMG) (mS : TyMS) (f : FN) (m : Int) : Prop := (0 ≤ m ∧ m ≤ 32) ∧ (∀ i j, 0 ≤ i → i < j → j < m → bef mG mS (f i) (f j)) ∧ (∀ i, 0 ≤ i → i < m → satM mS (f i)) ∧ (∀ g, satM mS g → ∃ i, 0 ≤ i ∧ i < m ∧ f i = g)
theorem sat_w {mG : TyMG} {mS : TyMS} (hG : kG mG) (hgt : mS.2.2.2.2.2.2.2.2 ≤ mG.2.2.2) {g : Int} (h : satM mS g) : (0 ≤ g ∧ g < 32) ∧ 1 ≤ mG.1 (6 * g + 4) ∧ mG.1 (6 * g + 4) ≤ 6 := by
  obtain ⟨h1, h2, h3, h4⟩ := h
  have h0 := hG.1
  have hw := hG.2.2.2.1 g h2 (by omega)
  have hw2 := hG.2.2.1 g h2 (by omega)
  omega
theorem bef_lex {mG : TyMG} {mS : TyMS} {a b : Int} (hw : 1 ≤ mG.1 (6 * a + 4)) (h : bef mG mS a b) : lexM mS a b := by
  unfold bef at h
  unfold lexM
  omega
theorem lex_as {mS : TyMS} {a b : Int} (h : lexM mS a b) : ¬ lexM mS b a := by
  unfold lexM at *
  omega
theorem rLn_lex {mG : TyMG} {mS : TyMS} {f : FN} {m : Int} (hG : kG mG) (hgt : mS.2.2.2.2.2.2.2.2 ≤ mG.2.2.2) (h : rLn mG mS f m) {i j : Int} (hi : 0 ≤ i ∧ i < m) (hj : 0 ≤ j ∧ j < m) : lexM mS (f i) (f j) ↔ i < j := by
  have wi := (sat_w hG hgt (h.2.2.1 i hi.1 hi.2)).2.1
  have wj := (sat_w hG hgt (h.2.2.1 j hj.1 hj.2)).2.1
  constructor
  · intro hl
    rcases Int.lt_trichotomy i j with q | q | q
    · exact q
    · exfalso
      subst q
      exact lex_as hl hl
    · exfalso
      exact lex_as hl (bef_lex wj (h.2.1 j i hj.1 q hi.2))
  · intro q
    exact bef_lex wi (h.2.1 i j hi.1 q hj.2)
theorem rLn_inj {mG : TyMG} {mS : TyMS} {f : FN} {m : Int} (hG : kG mG) (hgt : mS.2.2.2.2.2.2.2.2 ≤ mG.2.2.2) (h : rLn mG mS f m) {i j : Int} (hi : 0 ≤ i) (hij : i < j) (hj : j < m) : f i ≠ f j := by
  intro e
  have hl := (rLn_lex hG hgt h ⟨hi, by omega⟩ ⟨by omega, hj⟩).mpr hij
  rw [e] at hl
  exact lex_as hl hl
/-- sums over a line -/
theorem rLn_sum {mG : TyMG} {mS : TyMS} {f : FN} {m : Int} (hG : kG mG) (hgt : mS.2.2.2.2.2.2.2.2 ≤ mG.2.2.2) (h : rLn mG mS f m) (e : Int → Int) : smN (fun i => e (f i)) m.toNat = smN (fun g => cif (satM mS g) (e g) 0) mS.2.2.2.2.2.2.2.2.toNat := by
  have hm := h.1
  refine smN_line m.toNat (satM mS) f (fun i j a b c => rLn_inj hG hgt h a b (by omega)) (fun i a b => h.2.2.1 i a (by omega)) (fun g hg => ?_) (fun g hg => ?_)
  · obtain ⟨i, i0, i1, i2⟩ := h.2.2.2 g hg
    exact ⟨i, i0, by omega, i2⟩
  · obtain ⟨a, b, c, _⟩ := hg
    exact ⟨b, by omega⟩

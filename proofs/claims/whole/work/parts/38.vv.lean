/-! ===== the least price ===== -/
/-- the least of f 0 .. f (k - 1), and of what is far -/
def mnK (f : Int → Int) : Nat → Int
  | 0 => 1000000000
  | k + 1 => min (mnK f k) (f k)
theorem mnK_le {f : Int → Int} : ∀ (k : Nat) (t : Int), 0 ≤ t → t < k → mnK f k ≤ f t := by
  intro k
  induction k with
  | zero => intro t h0 h1; omega
  | succ k ih =>
    intro t h0 h1
    rw [mnK]
    by_cases h : t = k
    · rw [h]; omega
    · have := ih t h0 (by omega); omega
theorem mnK_far {f : Int → Int} : ∀ (k : Nat), mnK f k ≤ 1000000000 := by
  intro k
  induction k with
  | zero => rw [mnK]; omega
  | succ k ih => rw [mnK]; omega
theorem mnK_ex {f : Int → Int} : ∀ (k : Nat), mnK f k = 1000000000 ∨ ∃ t, 0 ≤ t ∧ t < (k : Int) ∧ mnK f k = f t := by
  intro k
  induction k with
  | zero => exact Or.inl rfl
  | succ k ih =>
    rw [mnK]
    by_cases h : f k < mnK f k
    · exact Or.inr ⟨k, by omega, by omega, by omega⟩
    · have e : min (mnK f k) (f k) = mnK f k := by omega
      rw [e]
      rcases ih with q | ⟨t, t0, t1, t2⟩
      · exact Or.inl q
      · exact Or.inr ⟨t, t0, by omega, t2⟩
/-- what is given: guests in order (n; out price; width; bars; moves (i, row, place)), rows (how many, wide), free, empty -/
abbrev DP : Type := Int × FN × FN × (Int → Int → Prop) × (Int → Int → Int → Int) × Int × FN × Int × Int
abbrev dN (D : DP) : Int := D.1
abbrev dO (D : DP) : FN := D.2.1
abbrev dW (D : DP) : FN := D.2.2.1
abbrev dB (D : DP) : Int → Int → Prop := D.2.2.2.1
abbrev dM (D : DP) : Int → Int → Int → Int := D.2.2.2.2.1
abbrev dR (D : DP) : Int := D.2.2.2.2.2.1
abbrev dX (D : DP) : FN := D.2.2.2.2.2.2.1
abbrev dF (D : DP) : Int := D.2.2.2.2.2.2.2.1
abbrev dE (D : DP) : Int := D.2.2.2.2.2.2.2.2
/-- where the i-th would begin in a row, if he may be barred with the last one (b) and u places are used in row r -/
noncomputable def begV (D : DP) (b : Prop) (r u to : Int) : Int := cif (to = r) (u + cif b (dF D) 0) 0
/-- what it costs that the i-th sits in row to, with the price v behind (a function of row and end) -/
noncomputable def optV (D : DP) (i : Int) (b : Prop) (r u : Int) (vo : Int) (v : Int → Int → Int) (to : Int) : Int :=
  cif (to = 6) (dO D i + vo) (cif (to < r ∨ dR D ≤ to ∨ dX D to < begV D b r u to + dW D i) 1000000000
    (cif (to = r ∧ b) (64 * dE D) 0 + dM D i to (begV D b r u to) + v to (begV D b r u to + dW D i)))
noncomputable def VV (D : DP) : Nat → (Int → Prop) → Int → Int → Int
  | 0, _, _, _ => 0
  | k + 1, b, r, u => mnK (optV D (dN D - (k + 1)) (b (dN D - (k + 1))) r u (VV D k b r u) (VV D k (dB D (dN D - (k + 1))))) 7
def kD (D : DP) : Prop := (0 ≤ dN D ∧ dN D ≤ 32) ∧ (∀ i, 0 ≤ i → i < dN D → 0 ≤ dO D i ∧ dO D i ≤ 64001) ∧ (∀ i, 0 ≤ i → i < dN D → 1 ≤ dW D i ∧ dW D i ≤ 6) ∧ (∀ i r p, 0 ≤ dM D i r p ∧ dM D i r p ≤ 1) ∧ (0 ≤ dR D ∧ dR D ≤ 6) ∧ (∀ r, 0 ≤ r → r < dR D → 0 ≤ dX D r ∧ dX D r ≤ 40) ∧ (1 ≤ dF D ∧ dF D ≤ 4) ∧ (0 ≤ dE D ∧ dE D ≤ 1000)
theorem VV_r {D : DP} (h : kD D) : ∀ (k : Nat) (b : Int → Prop) (r u : Int), (k : Int) ≤ dN D → 0 ≤ VV D k b r u ∧ VV D k b r u ≤ 64001 * k := by
  obtain ⟨h1, h2, h3, h4, h5, h6, h7, h8⟩ := h
  intro k
  induction k with
  | zero => intro b r u _; rw [VV]; omega
  | succ k ih =>
    intro b r u hk
    rw [VV]
    have ho := h2 (dN D - (k + 1)) (by omega) (by omega)
    have i1 := ih b r u (by omega)
    have e6 : optV D (dN D - (k + 1)) (b (dN D - (k + 1))) r u (VV D k b r u) (VV D k (dB D (dN D - (k + 1)))) 6 = dO D (dN D - (k + 1)) + VV D k b r u := by
      unfold optV; rw [cif_t rfl]
    constructor
    · rcases mnK_ex (f := optV D (dN D - (k + 1)) (b (dN D - (k + 1))) r u (VV D k b r u) (VV D k (dB D (dN D - (k + 1))))) 7 with q | ⟨t, t0, t1, t2⟩
      · omega
      · rw [t2]
        unfold optV
        by_cases c6 : t = 6
        · rw [cif_t c6]; omega
        · rw [cif_f c6]
          by_cases cf : t < r ∨ dR D ≤ t ∨ dX D t < begV D (b (dN D - (k + 1))) r u t + dW D (dN D - (k + 1))
          · rw [cif_t cf]; omega
          · rw [cif_f cf]
            have i2 := ih (dB D (dN D - (k + 1))) t (begV D (b (dN D - (k + 1))) r u t + dW D (dN D - (k + 1))) (by omega)
            have i3 := h4 (dN D - (k + 1)) t (begV D (b (dN D - (k + 1))) r u t)
            have i4 : 0 ≤ cif (t = r ∧ b (dN D - (k + 1))) (64 * dE D) 0 := by
              by_cases c : t = r ∧ b (dN D - (k + 1))
              · rw [cif_t c]; omega
              · rw [cif_f c]; omega
            omega
    · have := mnK_le (f := optV D (dN D - (k + 1)) (b (dN D - (k + 1))) r u (VV D k b r u) (VV D k (dB D (dN D - (k + 1))))) 7 6 (by omega) (by omega)
      rw [e6] at this
      push_cast
      omega
/-- only who is still to come matters -/
theorem VV_congr {D : DP} : ∀ (k : Nat) (b b' : Int → Prop) (r u : Int), (∀ j, dN D - k ≤ j → j < dN D → (b j ↔ b' j)) → VV D k b r u = VV D k b' r u := by
  intro k
  induction k with
  | zero => intro b b' r u _; rfl
  | succ k ih =>
    intro b b' r u h
    rw [VV, VV]
    have e1 : b (dN D - (k + 1)) = b' (dN D - (k + 1)) := propext (h _ (by push_cast; omega) (by omega))
    have e2 := ih b b' r u (fun j h0 h1 => h j (by push_cast at h0 ⊢; omega) h1)
    rw [e1, e2]
/-- with no row left all stay out -/
noncomputable def nob (D : DP) : Nat → Int
  | 0 => 0
  | k + 1 => nob D k + dO D (dN D - (k + 1))
theorem VV_norow {D : DP} (h : kD D) : ∀ (k : Nat) (b : Int → Prop) (r u : Int), (k : Int) ≤ dN D → dR D ≤ r → VV D k b r u = nob D k := by
  intro k
  induction k with
  | zero => intro b r u _ _; rfl
  | succ k ih =>
    intro b r u hk hr
    have hv := VV_r h (k + 1) b r u (by push_cast; omega)
    have i1 := ih b r u (by omega) hr
    rw [VV] at hv ⊢
    rw [nob]
    have hle := mnK_le (f := optV D (dN D - (k + 1)) (b (dN D - (k + 1))) r u (VV D k b r u) (VV D k (dB D (dN D - (k + 1))))) 7 6 (by omega) (by omega)
    have e6 : optV D (dN D - (k + 1)) (b (dN D - (k + 1))) r u (VV D k b r u) (VV D k (dB D (dN D - (k + 1)))) 6 = dO D (dN D - (k + 1)) + VV D k b r u := by
      unfold optV; rw [cif_t rfl]
    rw [e6, i1] at hle
    rcases mnK_ex (f := optV D (dN D - (k + 1)) (b (dN D - (k + 1))) r u (VV D k b r u) (VV D k (dB D (dN D - (k + 1))))) 7 with q | ⟨t, t0, t1, t2⟩
    · have := h.1; push_cast at hv; omega
    · by_cases c6 : t = 6
      · rw [t2, c6, e6, i1]; omega
      · have : optV D (dN D - (k + 1)) (b (dN D - (k + 1))) r u (VV D k b r u) (VV D k (dB D (dN D - (k + 1)))) t = 1000000000 := by
          unfold optV
          rw [cif_f c6, cif_t (by omega)]
        have := h.1; push_cast at hv; omega
/-- the next row empty is never better -/
theorem VV_next {D : DP} (h : kD D) : ∀ (k : Nat) (b : Int → Prop) (r u : Int), (k : Int) ≤ dN D → VV D k b r u ≤ VV D k (fun _ => False) (r + 1) 0 := by
  intro k
  induction k with
  | zero => intro b r u _; rw [VV, VV]; omega
  | succ k ih =>
    intro b r u hk
    have i1 := ih b r u (by omega)
    have hv := VV_r h (k + 1) b r u (by push_cast; omega)
    have hn := h.1
    rcases mnK_ex (f := optV D (dN D - (k + 1)) False (r + 1) 0 (VV D k (fun _ => False) (r + 1) 0) (VV D k (dB D (dN D - (k + 1))))) 7 with q | ⟨t, t0, t1, t2⟩
    · have e : VV D (k + 1) (fun _ => False) (r + 1) 0 = 1000000000 := by rw [VV]; exact q
      push_cast at hv
      omega
    · have e : VV D (k + 1) (fun _ => False) (r + 1) 0 = optV D (dN D - (k + 1)) False (r + 1) 0 (VV D k (fun _ => False) (r + 1) 0) (VV D k (dB D (dN D - (k + 1)))) t := by rw [VV]; exact t2
      have hle := mnK_le (f := optV D (dN D - (k + 1)) (b (dN D - (k + 1))) r u (VV D k b r u) (VV D k (dB D (dN D - (k + 1))))) 7 t t0 t1
      rw [e, VV]
      refine Int.le_trans hle ?_
      unfold optV
      by_cases c6 : t = 6
      · rw [cif_t c6, cif_t c6]; omega
      · rw [cif_f c6, cif_f c6]
        by_cases cf : t < r + 1 ∨ dR D ≤ t ∨ dX D t < begV D False (r + 1) 0 t + dW D (dN D - (k + 1))
        · rw [cif_t cf]
          have := mnK_far (f := fun _ => 0) 0
          by_cases cg : t < r ∨ dR D ≤ t ∨ dX D t < begV D (b (dN D - (k + 1))) r u t + dW D (dN D - (k + 1))
          · rw [cif_t cg]; omega
          · rw [cif_f cg]
            have i2 := VV_r h k (dB D (dN D - (k + 1))) t (begV D (b (dN D - (k + 1))) r u t + dW D (dN D - (k + 1))) (by omega)
            have i3 := h.2.2.2.1 (dN D - (k + 1)) t (begV D (b (dN D - (k + 1))) r u t)
            have i4 : cif (t = r ∧ b (dN D - (k + 1))) (64 * dE D) 0 ≤ 64000 := by
              have := h.2.2.2.2.2.2.2
              by_cases c : t = r ∧ b (dN D - (k + 1))
              · rw [cif_t c]; omega
              · rw [cif_f c]; omega
            omega
        · have eb : begV D (b (dN D - (k + 1))) r u t = 0 := by unfold begV; rw [cif_f (by omega)]
          have eb' : begV D False (r + 1) 0 t = 0 := by
            unfold begV
            by_cases c : t = r + 1
            · rw [cif_t c, cif_f (fun q => q)]; rfl
            · rw [cif_f c]
          rw [eb'] at cf
          rw [eb, eb', cif_f (by omega), cif_f (by omega), cif_f (fun q => by omega), cif_f (fun q => q.2)]
          omega
/-- guest by guest, as the office does -/
theorem VV_dec {D : DP} (h : kD D) (k : Nat) (b : Int → Prop) (r u : Int) (hk : (k : Int) + 1 ≤ dN D) (hr : 0 ≤ r ∧ r < dR D) :
    VV D (k + 1) b r u = min (min (VV D (k + 1) (fun _ => False) (r + 1) 0) (dO D (dN D - (k + 1)) + VV D k b r u))
      (cif (u + cif (b (dN D - (k + 1))) (dF D) 0 + dW D (dN D - (k + 1)) ≤ dX D r) (VV D k (dB D (dN D - (k + 1))) r (u + cif (b (dN D - (k + 1))) (dF D) 0 + dW D (dN D - (k + 1))) + dM D (dN D - (k + 1)) r (u + cif (b (dN D - (k + 1))) (dF D) 0) + cif (b (dN D - (k + 1))) (64 * dE D) 0) 1000000000) := by
  have hn := h.1
  have hR6 := h.2.2.2.2.1
  have v1 := VV_r h (k + 1) b r u (by push_cast; omega)
  have v2 := VV_r h (k + 1) (fun _ => False) (r + 1) 0 (by push_cast; omega)
  have hmon := VV_next h (k + 1) b r u (by push_cast; omega)
  have hmon2 := VV_next h k b r u (by omega)
  push_cast at v1 v2
  have ebr : begV D (b (dN D - (k + 1))) r u r = u + cif (b (dN D - (k + 1))) (dF D) 0 := by unfold begV; rw [cif_t rfl]
  have e6 : optV D (dN D - (k + 1)) (b (dN D - (k + 1))) r u (VV D k b r u) (VV D k (dB D (dN D - (k + 1)))) 6 = dO D (dN D - (k + 1)) + VV D k b r u := by
    unfold optV; rw [cif_t rfl]
  have er : optV D (dN D - (k + 1)) (b (dN D - (k + 1))) r u (VV D k b r u) (VV D k (dB D (dN D - (k + 1)))) r = cif (u + cif (b (dN D - (k + 1))) (dF D) 0 + dW D (dN D - (k + 1)) ≤ dX D r) (VV D k (dB D (dN D - (k + 1))) r (u + cif (b (dN D - (k + 1))) (dF D) 0 + dW D (dN D - (k + 1))) + dM D (dN D - (k + 1)) r (u + cif (b (dN D - (k + 1))) (dF D) 0) + cif (b (dN D - (k + 1))) (64 * dE D) 0) 1000000000 := by
    unfold optV
    rw [cif_f (by omega), ebr]
    by_cases c : u + cif (b (dN D - (k + 1))) (dF D) 0 + dW D (dN D - (k + 1)) ≤ dX D r
    · rw [cif_f (by omega), cif_t c]
      have : cif (r = r ∧ b (dN D - (k + 1))) (64 * dE D) 0 = cif (b (dN D - (k + 1))) (64 * dE D) 0 := by
        by_cases q : b (dN D - (k + 1))
        · rw [cif_t q, cif_t ⟨rfl, q⟩]
        · rw [cif_f q, cif_f (fun z => q z.2)]
      rw [this]
      omega
    · rw [cif_t (by omega), cif_f c]
  rw [← er]
  have hle6 := mnK_le (f := optV D (dN D - (k + 1)) (b (dN D - (k + 1))) r u (VV D k b r u) (VV D k (dB D (dN D - (k + 1))))) 7 6 (by omega) (by omega)
  have hler := mnK_le (f := optV D (dN D - (k + 1)) (b (dN D - (k + 1))) r u (VV D k b r u) (VV D k (dB D (dN D - (k + 1))))) 7 r (by omega) (by omega)
  rw [e6] at hle6
  have eV : VV D (k + 1) b r u = mnK (optV D (dN D - (k + 1)) (b (dN D - (k + 1))) r u (VV D k b r u) (VV D k (dB D (dN D - (k + 1))))) 7 := by rw [VV]
  rw [← eV] at hle6 hler
  rcases mnK_ex (f := optV D (dN D - (k + 1)) (b (dN D - (k + 1))) r u (VV D k b r u) (VV D k (dB D (dN D - (k + 1))))) 7 with q | ⟨t, t0, t1, t2⟩
  · rw [← eV] at q; omega
  · rw [← eV] at t2
    by_cases c6 : t = 6
    · rw [c6, e6] at t2; omega
    · by_cases cr : t = r
      · rw [cr] at t2; omega
      · -- a row behind: it is among those of the next row
        have hle' := mnK_le (f := optV D (dN D - (k + 1)) False (r + 1) 0 (VV D k (fun _ => False) (r + 1) 0) (VV D k (dB D (dN D - (k + 1))))) 7 t t0 t1
        have eV' : VV D (k + 1) (fun _ => False) (r + 1) 0 = mnK (optV D (dN D - (k + 1)) False (r + 1) 0 (VV D k (fun _ => False) (r + 1) 0) (VV D k (dB D (dN D - (k + 1))))) 7 := by rw [VV]
        rw [← eV'] at hle'
        have : optV D (dN D - (k + 1)) False (r + 1) 0 (VV D k (fun _ => False) (r + 1) 0) (VV D k (dB D (dN D - (k + 1)))) t ≤ VV D (k + 1) b r u := by
          rw [t2]
          unfold optV
          rw [cif_f c6, cif_f c6]
          have eb : begV D (b (dN D - (k + 1))) r u t = 0 := by unfold begV; rw [cif_f cr]
          have eb' : begV D False (r + 1) 0 t = 0 := by
            unfold begV
            by_cases c : t = r + 1
            · rw [cif_t c, cif_f (fun q => q)]; rfl
            · rw [cif_f c]
          rw [eb, eb']
          by_cases cf : t < r ∨ dR D ≤ t ∨ dX D t < 0 + dW D (dN D - (k + 1))
          · rw [cif_t cf]
            by_cases cg : t < r + 1 ∨ dR D ≤ t ∨ dX D t < 0 + dW D (dN D - (k + 1))
            · rw [cif_t cg]; omega
            · omega
          · rw [cif_f cf, cif_f (by omega), cif_f (fun z => z.2), cif_f (fun z => cr z.1)]
            omega
        omega

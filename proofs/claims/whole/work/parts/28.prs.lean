/-! ===== reading the rules: one machine over tokens ===== -/
abbrev PB : Type := FN × FN × FN × Int
abbrev PR : Type := Int × Int × PB
/-- due: 0 line or end, 1 letter, 2 behind a letter, 3 least or most, 4 field, 5 behind a key -/
noncomputable def prs (tp : FN) (n : Int) : Nat → Int → Int → Int → PB → PR
  | 0, _, p, _, pb => (1, p, pb)
  | f + 1, due, p, sg, pb =>
    cif (due = 0 ∧ tk tp n (sk tp n p) = 18) (0, -1, pb)
    (cif (due = 2) (cif (tk tp n (sk tp n p) = 8) (prs tp n f 3 (nx tp n (sk tp n p)) sg pb) (cif (tk tp n (sk tp n p) = 16) (prs tp n f 1 (nx tp n (sk tp n p)) sg pb) (cif (tk tp n (sk tp n p) = 17) (prs tp n f 0 (nx tp n (sk tp n p)) sg (pb.1, pb.2.1, pb.2.2.1, pb.2.2.2 + 1)) (1, sk tp n p, pb))))
    (cif (due = 3) (cif (tk tp n (sk tp n p) = 9) (prs tp n f 4 (nx tp n (sk tp n p)) 1 pb) (cif (tk tp n (sk tp n p) = 10) (prs tp n f 4 (nx tp n (sk tp n p)) (-1) pb) (1, sk tp n p, pb)))
    (cif (due = 4) (cif (11 ≤ tk tp n (sk tp n p) ∧ tk tp n (sk tp n p) ≤ 15) (prs tp n f 5 (nx tp n (sk tp n p)) sg (pb.1, aUp pb.2.1 pb.2.2.2 (pb.2.1 pb.2.2.2 + 1), aUp (aUp pb.2.2.1 (80 * pb.2.2.2 + 2 * pb.2.1 pb.2.2.2) (tk tp n (sk tp n p) - 10)) (80 * pb.2.2.2 + 2 * pb.2.1 pb.2.2.2 + 1) sg, pb.2.2.2)) (1, sk tp n p, pb))
    (cif (due = 5) (cif (tk tp n (sk tp n p) = 16) (prs tp n f 3 (nx tp n (sk tp n p)) sg pb) (cif (tk tp n (sk tp n p) = 17) (prs tp n f 0 (nx tp n (sk tp n p)) sg (pb.1, pb.2.1, pb.2.2.1, pb.2.2.2 + 1)) (1, sk tp n p, pb)))
    (cif (0 ≤ tk tp n (sk tp n p) ∧ tk tp n (sk tp n p) ≤ 7) (cif (pb.1 (tk tp n (sk tp n p)) = -1) (prs tp n f 2 (nx tp n (sk tp n p)) sg (aUp pb.1 (tk tp n (sk tp n p)) pb.2.2.2, cif (due = 0) (aUp pb.2.1 pb.2.2.2 0) pb.2.1, pb.2.2.1, pb.2.2.2)) (2, sk tp n p, pb)) (1, sk tp n p, pb))))))
theorem prs_end {tp : FN} {n : Int} {f : Nat} {p sg : Int} {pb : PB} (h : tk tp n (sk tp n p) = 18) : prs tp n (f + 1) 0 p sg pb = (0, -1, pb) := by
  rw [prs, cif_t ⟨rfl, h⟩]
/-- a letter -/
theorem prs_L {tp : FN} {n : Int} {f : Nat} {due p sg : Int} {pb : PB} (hd : due = 0 ∨ due = 1) (h : 0 ≤ tk tp n (sk tp n p) ∧ tk tp n (sk tp n p) ≤ 7) (h1 : pb.1 (tk tp n (sk tp n p)) = -1) : prs tp n (f + 1) due p sg pb = prs tp n f 2 (nx tp n (sk tp n p)) sg (aUp pb.1 (tk tp n (sk tp n p)) pb.2.2.2, cif (due = 0) (aUp pb.2.1 pb.2.2.2 0) pb.2.1, pb.2.2.1, pb.2.2.2) := by
  rw [prs, cif_f (by omega), cif_f (by omega), cif_f (by omega), cif_f (by omega), cif_f (by omega), cif_t h, cif_t h1]
theorem prs_L2 {tp : FN} {n : Int} {f : Nat} {due p sg : Int} {pb : PB} (hd : due = 0 ∨ due = 1) (h : 0 ≤ tk tp n (sk tp n p) ∧ tk tp n (sk tp n p) ≤ 7) (h1 : ¬ pb.1 (tk tp n (sk tp n p)) = -1) : prs tp n (f + 1) due p sg pb = (2, sk tp n p, pb) := by
  rw [prs, cif_f (by omega), cif_f (by omega), cif_f (by omega), cif_f (by omega), cif_f (by omega), cif_t h, cif_f h1]
theorem prs_L1 {tp : FN} {n : Int} {f : Nat} {due p sg : Int} {pb : PB} (hd : due = 0 ∨ due = 1) (h : ¬ (0 ≤ tk tp n (sk tp n p) ∧ tk tp n (sk tp n p) ≤ 7)) (h1 : ¬ (due = 0 ∧ tk tp n (sk tp n p) = 18)) : prs tp n (f + 1) due p sg pb = (1, sk tp n p, pb) := by
  rw [prs, cif_f h1, cif_f (by omega), cif_f (by omega), cif_f (by omega), cif_f (by omega), cif_f h]
theorem prs_2by {tp : FN} {n : Int} {f : Nat} {p sg : Int} {pb : PB} (h : tk tp n (sk tp n p) = 8) : prs tp n (f + 1) 2 p sg pb = prs tp n f 3 (nx tp n (sk tp n p)) sg pb := by
  rw [prs, cif_f (by omega), cif_t rfl, cif_t h]
theorem prs_2c {tp : FN} {n : Int} {f : Nat} {p sg : Int} {pb : PB} (h : tk tp n (sk tp n p) = 16) : prs tp n (f + 1) 2 p sg pb = prs tp n f 1 (nx tp n (sk tp n p)) sg pb := by
  rw [prs, cif_f (by omega), cif_t rfl, cif_f (by omega), cif_t h]
theorem prs_2s {tp : FN} {n : Int} {f : Nat} {p sg : Int} {pb : PB} (h : tk tp n (sk tp n p) = 17) : prs tp n (f + 1) 2 p sg pb = prs tp n f 0 (nx tp n (sk tp n p)) sg (pb.1, pb.2.1, pb.2.2.1, pb.2.2.2 + 1) := by
  rw [prs, cif_f (by omega), cif_t rfl, cif_f (by omega), cif_f (by omega), cif_t h]
theorem prs_2x {tp : FN} {n : Int} {f : Nat} {p sg : Int} {pb : PB} (h1 : ¬ tk tp n (sk tp n p) = 8) (h2 : ¬ tk tp n (sk tp n p) = 16) (h3 : ¬ tk tp n (sk tp n p) = 17) : prs tp n (f + 1) 2 p sg pb = (1, sk tp n p, pb) := by
  rw [prs, cif_f (by omega), cif_t rfl, cif_f h1, cif_f h2, cif_f h3]
theorem prs_3l {tp : FN} {n : Int} {f : Nat} {p sg : Int} {pb : PB} (h : tk tp n (sk tp n p) = 9) : prs tp n (f + 1) 3 p sg pb = prs tp n f 4 (nx tp n (sk tp n p)) 1 pb := by
  rw [prs, cif_f (by omega), cif_f (by omega), cif_t rfl, cif_t h]
theorem prs_3m {tp : FN} {n : Int} {f : Nat} {p sg : Int} {pb : PB} (h : tk tp n (sk tp n p) = 10) : prs tp n (f + 1) 3 p sg pb = prs tp n f 4 (nx tp n (sk tp n p)) (-1) pb := by
  rw [prs, cif_f (by omega), cif_f (by omega), cif_t rfl, cif_f (by omega), cif_t h]
theorem prs_3x {tp : FN} {n : Int} {f : Nat} {p sg : Int} {pb : PB} (h1 : ¬ tk tp n (sk tp n p) = 9) (h2 : ¬ tk tp n (sk tp n p) = 10) : prs tp n (f + 1) 3 p sg pb = (1, sk tp n p, pb) := by
  rw [prs, cif_f (by omega), cif_f (by omega), cif_t rfl, cif_f h1, cif_f h2]
theorem prs_4k {tp : FN} {n : Int} {f : Nat} {p sg : Int} {pb : PB} (h : 11 ≤ tk tp n (sk tp n p) ∧ tk tp n (sk tp n p) ≤ 15) : prs tp n (f + 1) 4 p sg pb = prs tp n f 5 (nx tp n (sk tp n p)) sg (pb.1, aUp pb.2.1 pb.2.2.2 (pb.2.1 pb.2.2.2 + 1), aUp (aUp pb.2.2.1 (80 * pb.2.2.2 + 2 * pb.2.1 pb.2.2.2) (tk tp n (sk tp n p) - 10)) (80 * pb.2.2.2 + 2 * pb.2.1 pb.2.2.2 + 1) sg, pb.2.2.2) := by
  rw [prs, cif_f (by omega), cif_f (by omega), cif_f (by omega), cif_t rfl, cif_t h]
theorem prs_4x {tp : FN} {n : Int} {f : Nat} {p sg : Int} {pb : PB} (h : ¬ (11 ≤ tk tp n (sk tp n p) ∧ tk tp n (sk tp n p) ≤ 15)) : prs tp n (f + 1) 4 p sg pb = (1, sk tp n p, pb) := by
  rw [prs, cif_f (by omega), cif_f (by omega), cif_f (by omega), cif_t rfl, cif_f h]
theorem prs_5c {tp : FN} {n : Int} {f : Nat} {p sg : Int} {pb : PB} (h : tk tp n (sk tp n p) = 16) : prs tp n (f + 1) 5 p sg pb = prs tp n f 3 (nx tp n (sk tp n p)) sg pb := by
  rw [prs, cif_f (by omega), cif_f (by omega), cif_f (by omega), cif_f (by omega), cif_t rfl, cif_t h]
theorem prs_5s {tp : FN} {n : Int} {f : Nat} {p sg : Int} {pb : PB} (h : tk tp n (sk tp n p) = 17) : prs tp n (f + 1) 5 p sg pb = prs tp n f 0 (nx tp n (sk tp n p)) sg (pb.1, pb.2.1, pb.2.2.1, pb.2.2.2 + 1) := by
  rw [prs, cif_f (by omega), cif_f (by omega), cif_f (by omega), cif_f (by omega), cif_t rfl, cif_f (by omega), cif_t h]
theorem prs_5x {tp : FN} {n : Int} {f : Nat} {p sg : Int} {pb : PB} (h2 : ¬ tk tp n (sk tp n p) = 16) (h3 : ¬ tk tp n (sk tp n p) = 17) : prs tp n (f + 1) 5 p sg pb = (1, sk tp n p, pb) := by
  rw [prs, cif_f (by omega), cif_f (by omega), cif_f (by omega), cif_f (by omega), cif_t rfl, cif_f h2, cif_f h3]
/-! what holds on the way -/
def cn1 (z : Int) : Int := if z = -1 then 0 else 1
def cnt (f : FN) : Int := cn1 (f 0) + cn1 (f 1) + cn1 (f 2) + cn1 (f 3) + cn1 (f 4) + cn1 (f 5) + cn1 (f 6) + cn1 (f 7)
theorem cn1_le (z : Int) : 0 ≤ cn1 z ∧ cn1 z ≤ 1 := by unfold cn1; split <;> omega
theorem cnt_le (f : FN) : cnt f ≤ 8 := by
  have := cn1_le (f 0); have := cn1_le (f 1); have := cn1_le (f 2); have := cn1_le (f 3); have := cn1_le (f 4); have := cn1_le (f 5); have := cn1_le (f 6); have := cn1_le (f 7)
  unfold cnt; omega
theorem cnt_up {f : FN} {c v : Int} (hc : 0 ≤ c ∧ c ≤ 7) (hf : f c = -1) (hv : v ≠ -1) : cnt (aUp f c v) = cnt f + 1 := by
  have e1 : cn1 v = 1 := if_neg hv
  have e0 : cn1 (-1) = 0 := rfl
  have : c = 0 ∨ c = 1 ∨ c = 2 ∨ c = 3 ∨ c = 4 ∨ c = 5 ∨ c = 6 ∨ c = 7 := by omega
  unfold cnt
  rcases this with rfl | rfl | rfl | rfl | rfl | rfl | rfl | rfl
  · rw [aUp_s, aUp_n _ _ (by decide), aUp_n _ _ (by decide), aUp_n _ _ (by decide), aUp_n _ _ (by decide), aUp_n _ _ (by decide), aUp_n _ _ (by decide), aUp_n _ _ (by decide), hf, e1, e0]; omega
  · rw [aUp_s, aUp_n _ _ (by decide), aUp_n _ _ (by decide), aUp_n _ _ (by decide), aUp_n _ _ (by decide), aUp_n _ _ (by decide), aUp_n _ _ (by decide), aUp_n _ _ (by decide), hf, e1, e0]; omega
  · rw [aUp_s, aUp_n _ _ (by decide), aUp_n _ _ (by decide), aUp_n _ _ (by decide), aUp_n _ _ (by decide), aUp_n _ _ (by decide), aUp_n _ _ (by decide), aUp_n _ _ (by decide), hf, e1, e0]; omega
  · rw [aUp_s, aUp_n _ _ (by decide), aUp_n _ _ (by decide), aUp_n _ _ (by decide), aUp_n _ _ (by decide), aUp_n _ _ (by decide), aUp_n _ _ (by decide), aUp_n _ _ (by decide), hf, e1, e0]; omega
  · rw [aUp_s, aUp_n _ _ (by decide), aUp_n _ _ (by decide), aUp_n _ _ (by decide), aUp_n _ _ (by decide), aUp_n _ _ (by decide), aUp_n _ _ (by decide), aUp_n _ _ (by decide), hf, e1, e0]; omega
  · rw [aUp_s, aUp_n _ _ (by decide), aUp_n _ _ (by decide), aUp_n _ _ (by decide), aUp_n _ _ (by decide), aUp_n _ _ (by decide), aUp_n _ _ (by decide), aUp_n _ _ (by decide), hf, e1, e0]; omega
  · rw [aUp_s, aUp_n _ _ (by decide), aUp_n _ _ (by decide), aUp_n _ _ (by decide), aUp_n _ _ (by decide), aUp_n _ _ (by decide), aUp_n _ _ (by decide), aUp_n _ _ (by decide), hf, e1, e0]; omega
  · rw [aUp_s, aUp_n _ _ (by decide), aUp_n _ _ (by decide), aUp_n _ _ (by decide), aUp_n _ _ (by decide), aUp_n _ _ (by decide), aUp_n _ _ (by decide), aUp_n _ _ (by decide), hf, e1, e0]; omega
def kyO (nk : FN) (x k : Int) : Prop := (1 ≤ nk (80 * x + 2 * k) ∧ nk (80 * x + 2 * k) ≤ 5) ∧ (nk (80 * x + 2 * k + 1) = 1 ∨ nk (80 * x + 2 * k + 1) = -1)
/-- dz: a line is begun; q4: bytes of a key already read; K: keys so far -/
def inv (n dz q4 p K : Int) (pb : PB) : Prop := (0 ≤ p ∧ p ≤ n ∧ n ≤ 200) ∧ 0 ≤ pb.2.2.2 ∧ pb.2.2.2 + dz ≤ cnt pb.1 ∧ (∀ k, 0 ≤ k → k < 8 → -1 ≤ pb.1 k ∧ pb.1 k < pb.2.2.2 + dz) ∧ (0 ≤ K ∧ 8 * K + q4 ≤ p) ∧ (∀ x, 0 ≤ x → x < pb.2.2.2 + dz → (0 ≤ pb.2.1 x ∧ pb.2.1 x ≤ K) ∧ ∀ k, 0 ≤ k → k < pb.2.1 x → kyO pb.2.2.1 x k)
theorem inv_L {n dz p p' K c : Int} {pb : PB} (hd : dz = 0 ∨ dz = 1) (h : inv n dz 0 p K pb) (hp : p ≤ p' ∧ p' ≤ n) (hc : 0 ≤ c ∧ c ≤ 7) (h1 : pb.1 c = -1) : inv n 1 0 p' K (aUp pb.1 c pb.2.2.2, cif (dz = 0) (aUp pb.2.1 pb.2.2.2 0) pb.2.1, pb.2.2.1, pb.2.2.2) := by
  obtain ⟨a1, a2, a3, a4, a5, a6⟩ := h
  refine ⟨by omega, a2, ?_, ?_, by omega, ?_⟩
  · show pb.2.2.2 + 1 ≤ cnt (aUp pb.1 c pb.2.2.2)
    rw [cnt_up hc h1 (by omega)]; omega
  · intro k k0 k1
    show -1 ≤ aUp pb.1 c pb.2.2.2 k ∧ aUp pb.1 c pb.2.2.2 k < pb.2.2.2 + 1
    by_cases hk : k = c
    · rw [hk, aUp_s]; omega
    · rw [aUp_n _ _ hk]; have := a4 k k0 k1; omega
  · intro x x0 x1
    dsimp only at x1 ⊢
    rcases hd with rfl | rfl
    · rw [cif_t rfl]
      by_cases hx : x = pb.2.2.2
      · rw [hx, aUp_s]; exact ⟨by omega, fun k k0 k1 => by omega⟩
      · rw [aUp_n _ _ hx]; exact a6 x x0 (by omega)
    · rw [cif_f (by omega)]; exact a6 x x0 x1
theorem inv_S {n dz p p' K : Int} {pb : PB} (h : inv n dz 0 p K pb) (hp : p ≤ p' ∧ p' ≤ n) : inv n dz 0 p' K pb := by
  obtain ⟨a1, a2, a3, a4, a5, a6⟩ := h
  exact ⟨by omega, a2, a3, a4, by omega, a6⟩
theorem inv_4 {n p p' K : Int} {pb : PB} (h : inv n 1 0 p K pb) (hp : p + 4 ≤ p' ∧ p' ≤ n) : inv n 1 4 p' K pb := by
  obtain ⟨a1, a2, a3, a4, a5, a6⟩ := h
  exact ⟨by omega, a2, a3, a4, by omega, a6⟩
theorem inv_C {n p p' K : Int} {pb : PB} (h : inv n 1 0 p K pb) (hp : p ≤ p' ∧ p' ≤ n) : inv n 0 0 p' K (pb.1, pb.2.1, pb.2.2.1, pb.2.2.2 + 1) := by
  obtain ⟨a1, a2, a3, a4, a5, a6⟩ := h
  refine ⟨by omega, by dsimp only; omega, by dsimp only; omega, fun k k0 k1 => ?_, by omega, fun x x0 x1 => ?_⟩
  · have := a4 k k0 k1; dsimp only; omega
  · dsimp only at x1 ⊢; exact a6 x x0 (by omega)
theorem inv_K {n p p' K c sg : Int} {pb : PB} (h : inv n 1 4 p K pb) (hp : p + 4 ≤ p' ∧ p' ≤ n) (hc : 1 ≤ c ∧ c ≤ 5) (hs : sg = 1 ∨ sg = -1) : inv n 1 0 p' (K + 1) (pb.1, aUp pb.2.1 pb.2.2.2 (pb.2.1 pb.2.2.2 + 1), aUp (aUp pb.2.2.1 (80 * pb.2.2.2 + 2 * pb.2.1 pb.2.2.2) c) (80 * pb.2.2.2 + 2 * pb.2.1 pb.2.2.2 + 1) sg, pb.2.2.2) := by
  obtain ⟨a1, a2, a3, a4, a5, a6⟩ := h
  have ao := a6 pb.2.2.2 a2 (by omega)
  refine ⟨by omega, a2, a3, a4, by omega, fun x x0 x1 => ?_⟩
  dsimp only at x1 ⊢
  have ax := a6 x x0 x1
  by_cases hx : x = pb.2.2.2
  · rw [hx, aUp_s]
    refine ⟨by omega, fun k k0 k1 => ?_⟩
    unfold kyO
    by_cases hk : k = pb.2.1 pb.2.2.2
    · rw [hk, aUp_n _ _ (by omega), aUp_s, aUp_s]; exact ⟨hc, hs⟩
    · rw [aUp_n _ _ (by omega), aUp_n _ _ (by omega), aUp_n _ _ (by omega), aUp_n _ _ (by omega)]
      exact ao.2 k k0 (by omega)
  · rw [aUp_n _ _ hx]
    refine ⟨by omega, fun k k0 k1 => ?_⟩
    unfold kyO
    rw [aUp_n _ _ (by omega), aUp_n _ _ (by omega), aUp_n _ _ (by omega), aUp_n _ _ (by omega)]
    exact ax.2 k k0 k1

/-! ===== the morning ===== -/
def mnN (g : FN) : Nat → Int
  | 0 => g 0
  | k + 1 => min (mnN g k) (g (k + 1))
noncomputable def fsG (g : FN) (m : Int) : Nat → Int → Int
  | 0, t => t
  | k + 1, t => cif (g t ≤ m) t (fsG g m k (t + 1))
/-- minute, end, gates, minuteOf, gateOf, whichOf -/
abbrev TyM : Type := Int × Int × FN × FN × FN × FN
noncomputable def mMi (n : Int) (q : TyM) : Int := max q.1 (mnN q.2.2.1 (n - 1).toNat)
noncomputable def mGa (n : Int) (q : TyM) : Int := fsG q.2.2.1 (mMi n q) 4 0
noncomputable def mSt (n w who k : Int) (q : TyM) : TyM := (mMi n q, max q.2.1 (mMi n q + w), aUp q.2.2.1 (mGa n q) (mMi n q + w), aUp q.2.2.2.1 who (mMi n q), aUp q.2.2.2.2.1 who (mGa n q), aUp q.2.2.2.2.2 who k)
noncomputable def mRun (n : Int) (w f : FN) : Nat → TyM → TyM
  | 0, q => q
  | k + 1, q => mSt n (w (f k)) (f k) k (mRun n w f k q)
theorem mnN_r {g : FN} {b : Int} (hg : ∀ i, 0 ≤ i → i < 4 → 0 ≤ g i ∧ g i ≤ b) : ∀ (k : Nat), k < 4 → 0 ≤ mnN g k ∧ mnN g k ≤ b := by
  intro k
  induction k with
  | zero => intro _; exact hg 0 (by omega) (by omega)
  | succ k ih =>
    intro hk
    have h1 := ih (by omega)
    have h2 := hg (k + 1) (by omega) (by omega)
    rw [mnN]
    omega
theorem mnN_ex {g : FN} : ∀ (k : Nat), ∃ t : Int, 0 ≤ t ∧ t ≤ k ∧ g t = mnN g k := by
  intro k
  induction k with
  | zero => exact ⟨0, by omega, by omega, rfl⟩
  | succ k ih =>
    obtain ⟨t, t0, t1, t2⟩ := ih
    rw [mnN]
    by_cases h : g (k + 1) < mnN g k
    · exact ⟨k + 1, by omega, by push_cast; omega, by omega⟩
    · exact ⟨t, t0, by push_cast; omega, by omega⟩
theorem mnN_congr {g g' : FN} : ∀ (k : Nat), (∀ i, 0 ≤ i → i ≤ (k : Int) → g i = g' i) → mnN g k = mnN g' k := by
  intro k
  induction k with
  | zero => intro h; exact h 0 (by omega) (by omega)
  | succ k ih =>
    intro h
    rw [mnN, mnN, ih (fun i a b => h i a (by push_cast; omega)), h (k + 1) (by omega) (by push_cast; omega)]
/-- the first gate that is free -/
theorem fsG_ok {g : FN} {m : Int} : ∀ (k : Nat) (t : Int), (∃ s, t ≤ s ∧ s < t + k ∧ g s ≤ m) → t ≤ fsG g m k t ∧ fsG g m k t < t + k ∧ g (fsG g m k t) ≤ m ∧ ∀ s, t ≤ s → s < fsG g m k t → ¬ g s ≤ m := by
  intro k
  induction k with
  | zero => intro t ⟨s, a, b, c⟩; push_cast at b; omega
  | succ k ih =>
    intro t ⟨s, a, b, c⟩
    rw [fsG]
    by_cases h : g t ≤ m
    · rw [cif_t h]
      exact ⟨by omega, by push_cast; omega, h, fun s a b => by omega⟩
    · rw [cif_f h]
      have hs : s ≠ t := fun e => h (e ▸ c)
      obtain ⟨a1, a2, a3, a4⟩ := ih (t + 1) ⟨s, by omega, by push_cast at b; omega, c⟩
      refine ⟨by omega, by push_cast; omega, a3, fun s' b1 b2 => ?_⟩
      by_cases e : s' = t
      · rw [e]; exact h
      · exact a4 s' (by omega) b2
theorem fsG_at {g : FN} {m x : Int} (hx : 0 ≤ x ∧ x < 4) (h1 : g x ≤ m) (h2 : ∀ s, 0 ≤ s → s < x → ¬ g s ≤ m) : fsG g m 4 0 = x := by
  obtain ⟨a1, a2, a3, a4⟩ := fsG_ok (g := g) (m := m) 4 0 ⟨x, hx.1, by omega, h1⟩
  rcases Int.lt_trichotomy (fsG g m 4 0) x with q | q | q
  · exact absurd a3 (h2 _ a1 q)
  · exact q
  · exact absurd h1 (a4 x hx.1 q)
def kM (b : Int) (q : TyM) : Prop := (0 ≤ q.1 ∧ q.1 ≤ b) ∧ (0 ≤ q.2.1 ∧ q.2.1 ≤ b) ∧ (∀ i, 0 ≤ i → i < 4 → 0 ≤ q.2.2.1 i ∧ q.2.2.1 i ≤ b)
theorem mMi_r {n b : Int} {q : TyM} (hn : 1 ≤ n ∧ n ≤ 4) (h : kM b q) : 0 ≤ mMi n q ∧ mMi n q ≤ b := by
  have h1 := mnN_r h.2.2 (n - 1).toNat (by omega)
  have h2 := h.1
  unfold mMi
  omega
theorem mGa_r {n : Int} {q : TyM} (hn : 1 ≤ n ∧ n ≤ 4) : (0 ≤ mGa n q ∧ mGa n q < n) ∧ q.2.2.1 (mGa n q) ≤ mMi n q ∧ ∀ s, 0 ≤ s → s < mGa n q → ¬ q.2.2.1 s ≤ mMi n q := by
  obtain ⟨t, t0, t1, t2⟩ := mnN_ex (g := q.2.2.1) (n - 1).toNat
  have hm : mnN q.2.2.1 (n - 1).toNat ≤ mMi n q := by unfold mMi; omega
  obtain ⟨a1, a2, a3, a4⟩ := fsG_ok (g := q.2.2.1) (m := mMi n q) 4 0 ⟨t, t0, by omega, by omega⟩
  have e : mGa n q = fsG q.2.2.1 (mMi n q) 4 0 := rfl
  rw [e]
  refine ⟨⟨a1, ?_⟩, a3, a4⟩
  by_cases h : fsG q.2.2.1 (mMi n q) 4 0 < n
  · exact h
  · exact absurd (by omega) (a4 t t0 (by omega))
theorem mSt_k {n w who k b : Int} {q : TyM} (hn : 1 ≤ n ∧ n ≤ 4) (hw : 0 ≤ w ∧ w ≤ 6) (h : kM b q) : kM (b + 6) (mSt n w who k q) := by
  have h1 := mMi_r hn h
  have h2 := h.2.1
  refine ⟨?_, ?_, fun i i0 i1 => ?_⟩
  · show 0 ≤ mMi n q ∧ mMi n q ≤ b + 6
    omega
  · show 0 ≤ max q.2.1 (mMi n q + w) ∧ max q.2.1 (mMi n q + w) ≤ b + 6
    omega
  · show 0 ≤ aUp q.2.2.1 (mGa n q) (mMi n q + w) i ∧ aUp q.2.2.1 (mGa n q) (mMi n q + w) i ≤ b + 6
    have h3 := h.2.2 i i0 i1
    by_cases e : i = mGa n q
    · rw [e, aUp_s]; omega
    · rw [aUp_n _ _ e]; omega
theorem mRun_k {n : Int} {w f : FN} {q : TyM} (hn : 1 ≤ n ∧ n ≤ 4) (hq : kM 0 q) : ∀ (k : Nat), (∀ i, 0 ≤ i → i < (k : Int) → 0 ≤ w (f i) ∧ w (f i) ≤ 6) → kM (6 * k) (mRun n w f k q) := by
  intro k
  induction k with
  | zero => intro _; exact hq
  | succ k ih =>
    intro hw
    have h1 := ih (fun i a b => hw i a (by push_cast; omega))
    have h2 := mSt_k (who := f k) (k := k) hn (hw k (by omega) (by push_cast; omega)) h1
    rw [mRun, show 6 * ((k + 1 : Nat) : Int) = 6 * k + 6 from by push_cast; omega]
    exact h2
/-- two runs over the same line -/
theorem mRun_eq {n : Int} {w w' f : FN} {q q' : TyM} (hn : 1 ≤ n ∧ n ≤ 4) (h1 : q.1 = q'.1) (h2 : q.2.1 = q'.2.1) (h3 : ∀ i, 0 ≤ i → i < 4 → q.2.2.1 i = q'.2.2.1 i) : ∀ (k : Nat), (∀ i, 0 ≤ i → i < (k : Int) → w (f i) = w' (f i)) →
    (mRun n w f k q).1 = (mRun n w' f k q').1 ∧ (mRun n w f k q).2.1 = (mRun n w' f k q').2.1 ∧ (∀ i, 0 ≤ i → i < 4 → (mRun n w f k q).2.2.1 i = (mRun n w' f k q').2.2.1 i) ∧
    (∀ g, ((∃ j, 0 ≤ j ∧ j < (k : Int) ∧ f j = g) → (mRun n w f k q).2.2.2.1 g = (mRun n w' f k q').2.2.2.1 g ∧ (mRun n w f k q).2.2.2.2.1 g = (mRun n w' f k q').2.2.2.2.1 g ∧ (mRun n w f k q).2.2.2.2.2 g = (mRun n w' f k q').2.2.2.2.2 g ∧ 0 ≤ (mRun n w f k q).2.2.2.2.2 g ∧ (mRun n w f k q).2.2.2.2.2 g < k) ∧
      ((¬ ∃ j, 0 ≤ j ∧ j < (k : Int) ∧ f j = g) → (mRun n w f k q).2.2.2.1 g = q.2.2.2.1 g ∧ (mRun n w f k q).2.2.2.2.1 g = q.2.2.2.2.1 g ∧ (mRun n w f k q).2.2.2.2.2 g = q.2.2.2.2.2 g ∧ (mRun n w' f k q').2.2.2.1 g = q'.2.2.2.1 g ∧ (mRun n w' f k q').2.2.2.2.1 g = q'.2.2.2.2.1 g ∧ (mRun n w' f k q').2.2.2.2.2 g = q'.2.2.2.2.2 g)) := by
  intro k
  induction k with
  | zero =>
    intro _
    refine ⟨h1, h2, h3, fun g => ⟨fun ⟨j, a, b, _⟩ => by push_cast at b; omega, fun _ => ⟨rfl, rfl, rfl, rfl, rfl, rfl⟩⟩⟩
  | succ k ih =>
    intro hw
    obtain ⟨i1, i2, i3, i4⟩ := ih (fun i a b => hw i a (by push_cast; omega))
    have hwk := hw k (by omega) (by push_cast; omega)
    rw [mRun, mRun]
    generalize mRun n w f k q = p at *
    generalize mRun n w' f k q' = p' at *
    have em : mMi n p = mMi n p' := by
      unfold mMi
      rw [i1, mnN_congr (n - 1).toNat (fun i a b => i3 i a (by omega))]
    have eg : mGa n p = mGa n p' := by
      obtain ⟨⟨g1, g2⟩, g3, g4⟩ := mGa_r (q := p') hn
      refine fsG_at ⟨g1, by omega⟩ ?_ ?_
      · rw [i3 _ g1 (by omega), em]; exact g3
      · intro s s0 s1
        rw [i3 _ s0 (by omega), em]; exact g4 s s0 s1
    refine ⟨em, ?_, fun i a b => ?_, fun g => ⟨fun ⟨j, a, b, c⟩ => ?_, fun hno => ?_⟩⟩
    · show max p.2.1 (mMi n p + w (f k)) = max p'.2.1 (mMi n p' + w' (f k))
      rw [em, hwk, i2]
    · show aUp p.2.2.1 (mGa n p) (mMi n p + w (f k)) i = aUp p'.2.2.1 (mGa n p') (mMi n p' + w' (f k)) i
      rw [em, eg, hwk]
      by_cases e : i = mGa n p'
      · rw [e, aUp_s, aUp_s]
      · rw [aUp_n _ _ e, aUp_n _ _ e]; exact i3 i a b
    · show aUp p.2.2.2.1 (f k) (mMi n p) g = aUp p'.2.2.2.1 (f k) (mMi n p') g ∧ aUp p.2.2.2.2.1 (f k) (mGa n p) g = aUp p'.2.2.2.2.1 (f k) (mGa n p') g ∧ aUp p.2.2.2.2.2 (f k) k g = aUp p'.2.2.2.2.2 (f k) k g ∧ 0 ≤ aUp p.2.2.2.2.2 (f k) k g ∧ aUp p.2.2.2.2.2 (f k) k g < ((k + 1 : Nat) : Int)
      rw [em, eg]
      by_cases e : g = f k
      · rw [e, aUp_s, aUp_s, aUp_s, aUp_s, aUp_s, aUp_s]
        exact ⟨rfl, rfl, rfl, by omega, by push_cast; omega⟩
      · rw [aUp_n _ _ e, aUp_n _ _ e, aUp_n _ _ e, aUp_n _ _ e, aUp_n _ _ e, aUp_n _ _ e]
        have hj : j ≠ k := fun q => e (by rw [← c, q])
        obtain ⟨r1, r2, r3, r4, r5⟩ := (i4 g).1 ⟨j, a, by push_cast at b; omega, c⟩
        exact ⟨r1, r2, r3, r4, by push_cast; omega⟩
    · have e : g ≠ f k := fun q => hno ⟨k, by omega, by push_cast; omega, q.symm⟩
      show aUp p.2.2.2.1 (f k) (mMi n p) g = _ ∧ aUp p.2.2.2.2.1 (f k) (mGa n p) g = _ ∧ aUp p.2.2.2.2.2 (f k) k g = _ ∧ aUp p'.2.2.2.1 (f k) (mMi n p') g = _ ∧ aUp p'.2.2.2.2.1 (f k) (mGa n p') g = _ ∧ aUp p'.2.2.2.2.2 (f k) k g = _
      rw [aUp_n _ _ e, aUp_n _ _ e, aUp_n _ _ e, aUp_n _ _ e, aUp_n _ _ e, aUp_n _ _ e]
      exact (i4 g).2 (fun ⟨j, a, b, c⟩ => hno ⟨j, a, by push_cast; omega, c⟩)

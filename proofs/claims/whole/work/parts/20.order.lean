/-! ===== THE ORDER ===== -/
noncomputable def cif {α : Type} (p : Prop) (x y : α) : α := @ite α p (Classical.propDecidable p) x y
theorem cif_t {α : Type} {p : Prop} (h : p) (x y : α) : cif p x y = x := if_pos h
theorem cif_f {α : Type} {p : Prop} (h : ¬ p) (x y : α) : cif p x y = y := if_neg h
theorem aUp_s {α : Type} (f : Int → α) (i : Int) (v : α) : aUp f i v i = v := if_pos rfl
theorem aUp_n {α : Type} (f : Int → α) {i k : Int} (v : α) (h : k ≠ i) : aUp f i v k = f k := if_neg h
/-- by the keys: the first difference decides -/
def ahd (c : Int → Int) (fin : Prop) : Nat → Int → Prop
  | 0, _ => fin
  | m + 1, k => (¬ c k = 0 ∧ c k < 0) ∨ (c k = 0 ∧ ahd c fin m (k + 1))
theorem ahd_congr {c c' : Int → Int} {fin : Prop} : ∀ (m : Nat) (k k' : Int), (∀ i : Int, 0 ≤ i → i < m → c (k + i) = c' (k' + i)) → (ahd c fin m k ↔ ahd c' fin m k') := by
  intro m
  induction m with
  | zero => intro k k' _; exact Iff.rfl
  | succ m ih =>
    intro k k' h
    have h0 := h 0 (by omega) (by omega)
    simp only [Int.add_zero] at h0
    have hi := ih (k + 1) (k' + 1) (fun i h1 h2 => by
      have := h (i + 1) (by omega) (by omega)
      rw [show k + 1 + i = k + (i + 1) from by omega, show k' + 1 + i = k' + (i + 1) from by omega]
      exact this)
    unfold ahd
    rw [h0, hi]
theorem ahd_trans {c1 c2 c3 : Int → Int} {f1 f2 f3 : Prop} (hc : ∀ k, c3 k = c1 k + c2 k) (hf : f1 → f2 → f3) : ∀ (m : Nat) (k : Int), ahd c1 f1 m k → ahd c2 f2 m k → ahd c3 f3 m k := by
  intro m
  induction m with
  | zero => intro k h1 h2; exact hf h1 h2
  | succ m ih =>
    intro k h1 h2
    have hk := hc k
    unfold ahd at h1 h2 ⊢
    rcases h1 with ⟨a1, a2⟩ | ⟨a1, a2⟩ <;> rcases h2 with ⟨b1, b2⟩ | ⟨b1, b2⟩
    · exact Or.inl ⟨by omega, by omega⟩
    · exact Or.inl ⟨by omega, by omega⟩
    · exact Or.inl ⟨by omega, by omega⟩
    · exact Or.inr ⟨by omega, ih (k + 1) a2 b2⟩
theorem ahd_total {c1 c2 : Int → Int} {f1 f2 : Prop} (hc : ∀ k, c2 k = - c1 k) (hf : f1 ∨ f2) : ∀ (m : Nat) (k : Int), ahd c1 f1 m k ∨ ahd c2 f2 m k := by
  intro m
  induction m with
  | zero => intro k; exact hf
  | succ m ih =>
    intro k
    have hk := hc k
    unfold ahd
    by_cases h0 : c1 k = 0
    · rcases ih (k + 1) with q | q
      · exact Or.inl (Or.inr ⟨h0, q⟩)
      · exact Or.inr (Or.inr ⟨by omega, q⟩)
    · by_cases h1 : c1 k < 0
      · exact Or.inl (Or.inl ⟨h0, h1⟩)
      · exact Or.inr (Or.inl ⟨by omega, by omega⟩)
theorem ahd_irr {c : Int → Int} {fin : Prop} (hc : ∀ k, c k = 0) (hf : ¬ fin) : ∀ (m : Nat) (k : Int), ¬ ahd c fin m k := by
  intro m
  induction m with
  | zero => intro k; exact hf
  | succ m ih =>
    intro k h
    have hk := hc k
    unfold ahd at h
    rcases h with ⟨a, _⟩ | ⟨_, b⟩
    · exact a hk
    · exact ih (k + 1) b
def keyC (mG : TyMG) (mU : TyMU) (x a b k : Int) : Int := (mG.1 (6 * a + mU.2.2.1 (80 * x + 2 * k)) - mG.1 (6 * b + mU.2.2.1 (80 * x + 2 * k))) * mU.2.2.1 (80 * x + 2 * k + 1)
def lnM (mG : TyMG) (mU : TyMU) (a : Int) : Int := mU.1 (mG.1 (6 * a))
def ahM (mG : TyMG) (mU : TyMU) (a b : Int) : Prop := (¬ lnM mG mU a = lnM mG mU b ∧ lnM mG mU a < lnM mG mU b) ∨ (lnM mG mU a = lnM mG mU b ∧ ahd (keyC mG mU (lnM mG mU a) a b) (a < b) (mU.2.1 (lnM mG mU a)).toNat 0)
def inM (mG : TyMG) (mU : TyMU) (g : Int) : Prop := (0 ≤ g ∧ g < mG.2.2.2) ∧ mG.2.1 g = 0 ∧ ¬ lnM mG mU g = -1
def sto (ah : Int → Int → Prop) : Prop := (∀ a, ¬ ah a a) ∧ (∀ a b c, ah a b → ah b c → ah a c) ∧ (∀ a b, a ≠ b → ah a b ∨ ah b a)
theorem ahM_sto (mG : TyMG) (mU : TyMU) : sto (ahM mG mU) := by
  refine ⟨?_, ?_, ?_⟩
  · intro a h
    unfold ahM at h
    rcases h with h | h
    · exact h.1 rfl
    · exact ahd_irr (fun k => by unfold keyC; rw [Int.sub_self, Int.zero_mul]) (by omega) _ _ h.2
  · intro a b c h1 h2
    unfold ahM at *
    rcases h1 with h1 | h1 <;> rcases h2 with h2 | h2
    · exact Or.inl ⟨by omega, by omega⟩
    · exact Or.inl ⟨by omega, by omega⟩
    · exact Or.inl ⟨by omega, by omega⟩
    · refine Or.inr ⟨by omega, ?_⟩
      have h2' := h2.2
      rw [← h1.1] at h2'
      refine ahd_trans (fun k => ?_) (fun p q => by omega) _ _ h1.2 h2'
      unfold keyC
      rw [← Int.add_mul]
      congr 1
      omega
  · intro a b hab
    unfold ahM
    by_cases h0 : lnM mG mU a = lnM mG mU b
    · rcases ahd_total (c1 := keyC mG mU (lnM mG mU a) a b) (c2 := keyC mG mU (lnM mG mU b) b a) (f1 := a < b) (f2 := b < a) (fun k => by
        unfold keyC
        rw [h0, ← Int.neg_mul]
        congr 1
        omega) (by omega) (mU.2.1 (lnM mG mU a)).toNat 0 with q | q
      · exact Or.inl (Or.inr ⟨h0, q⟩)
      · rw [h0] at q
        exact Or.inr (Or.inr ⟨h0.symm, q⟩)
    · by_cases h1 : lnM mG mU a < lnM mG mU b
      · exact Or.inl (Or.inl ⟨h0, h1⟩)
      · exact Or.inr (Or.inl ⟨by omega, by omega⟩)
/-- set in from behind -/
noncomputable def insF (ah : Int → Int → Prop) (g : Int) : Nat → FN → FN
  | 0, f => aUp f 0 g
  | k + 1, f => cif (ah g (f k)) (insF ah g k (aUp f ((k : Int) + 1) (f k))) (aUp f ((k : Int) + 1) g)
theorem insF_spec (ah : Int → Int → Prop) (g : Int) : ∀ (n : Nat) (f : FN), ∃ j : Int, 0 ≤ j ∧ j ≤ n ∧ (∀ i, j ≤ i → i < n → ah g (f i)) ∧ (0 < j → ¬ ah g (f (j - 1))) ∧ insF ah g n f j = g ∧ (∀ k, k < j → insF ah g n f k = f k) ∧ (∀ k, j < k → k ≤ n → insF ah g n f k = f (k - 1)) ∧ (∀ k, (n : Int) < k → insF ah g n f k = f k) := by
  intro n
  induction n with
  | zero =>
    intro f
    refine ⟨0, by omega, by omega, fun i h1 h2 => by omega, fun h => by omega, ?_, ?_, ?_, ?_⟩
    · unfold insF; exact aUp_s _ _ _
    · intro k hk; unfold insF; exact aUp_n _ _ (by omega)
    · intro k h1 h2; omega
    · intro k hk; unfold insF; exact aUp_n _ _ (by omega)
  | succ n ih =>
    intro f
    by_cases h : ah g (f n)
    · obtain ⟨j, j0, j1, j2, j3, j4, j5, j6, j7⟩ := ih (aUp f ((n : Int) + 1) (f n))
      have e : insF ah g (n + 1) f = insF ah g n (aUp f ((n : Int) + 1) (f n)) := by
        rw [insF]; exact cif_t h _ _
      rw [e]
      refine ⟨j, j0, by omega, ?_, ?_, j4, ?_, ?_, ?_⟩
      · intro i h1 h2
        by_cases hi : i = n
        · rw [hi]; exact h
        · have := j2 i h1 (by omega)
          rw [aUp_n _ _ (by omega)] at this
          exact this
      · intro hj
        have := j3 hj
        rw [aUp_n _ _ (by omega)] at this
        exact this
      · intro k hk
        rw [j5 k hk, aUp_n _ _ (by omega)]
      · intro k h1 h2
        by_cases hk : k = (n : Int) + 1
        · rw [j7 k (by omega), hk, aUp_s]
          congr 1
          omega
        · rw [j6 k h1 (by omega), aUp_n _ _ (by omega)]
      · intro k hk
        rw [j7 k (by omega), aUp_n _ _ (by omega)]
    · have e : insF ah g (n + 1) f = aUp f ((n : Int) + 1) g := by
        rw [insF]; exact cif_f h _ _
      rw [e]
      refine ⟨(n : Int) + 1, by omega, by omega, fun i h1 h2 => by omega, ?_, aUp_s _ _ _, fun k hk => aUp_n _ _ (by omega), fun k h1 h2 => by omega, fun k hk => aUp_n _ _ (by omega)⟩
      intro _
      rw [show (n : Int) + 1 - 1 = n from by omega]
      exact h
/-- f's first n: all of P, sorted -/
def ordI (ah : Int → Int → Prop) (p : Int → Prop) (f : FN) (n : Int) : Prop := 0 ≤ n ∧ (∀ i j, 0 ≤ i → i < j → j < n → ah (f i) (f j)) ∧ (∀ i, 0 ≤ i → i < n → p (f i)) ∧ (∀ g, p g → ∃ i, 0 ≤ i ∧ i < n ∧ f i = g)
theorem ordI_uniq {ah : Int → Int → Prop} {p : Int → Prop} (ho : sto ah) {f f' : FN} {n n' : Int} (h : ordI ah p f n) (h' : ordI ah p f' n') : n = n' ∧ ∀ i, 0 ≤ i → i < n → f i = f' i := by
  obtain ⟨hirr, htr, _⟩ := ho
  obtain ⟨n0, s1, m1, e1⟩ := h
  obtain ⟨n0', s2, m2, e2⟩ := h'
  have key : ∀ (m : Nat) (i : Int), i = m → i < n → i < n' ∧ f i = f' i := by
    intro m
    induction m using Nat.strongRecOn with
    | _ m ih =>
      intro i hi hin
      obtain ⟨j, j0, j1, j2⟩ := e2 (f i) (m1 i (by omega) hin)
      have hji : i ≤ j := by
        rcases Int.lt_or_le j i with q | q
        · obtain ⟨_, r2⟩ := ih j.toNat (by omega) j (by omega) (by omega)
          have := s1 j i j0 q hin
          rw [r2, j2] at this
          exact absurd this (hirr _)
        · exact q
      refine ⟨by omega, ?_⟩
      obtain ⟨k, k0, k1, k2⟩ := e1 (f' i) (m2 i (by omega) (by omega))
      have hki : i ≤ k := by
        rcases Int.lt_or_le k i with q | q
        · obtain ⟨_, r2⟩ := ih k.toNat (by omega) k (by omega) (by omega)
          have := s2 k i k0 q (by omega)
          rw [← r2, k2] at this
          exact absurd this (hirr _)
        · exact q
      by_cases hj : j = i
      · rw [← j2, hj]
      · by_cases hk : k = i
        · rw [← k2, hk]
        · have a1 := s2 i j (by omega) (by omega) j1
          rw [j2] at a1
          have a2 := s1 i k (by omega) (by omega) k1
          rw [k2] at a2
          exact absurd (htr _ _ _ a1 a2) (hirr _)
  have hn : n ≤ n' := by
    by_cases hp : 0 < n
    · have := (key (n - 1).toNat (n - 1) (by omega) (by omega)).1
      omega
    · omega
  refine ⟨?_, fun i h0 h1 => (key i.toNat i (by omega) h1).2⟩
  rcases Int.lt_or_le n n' with q | q
  · obtain ⟨j, j0, j1, j2⟩ := e1 (f' n) (m2 n n0 q)
    have := s2 j n j0 j1 q
    rw [← (key j.toNat j (by omega) j1).2, j2] at this
    exact absurd this (hirr _)
  · omega
theorem ordI_ins {ah : Int → Int → Prop} {p p' : Int → Prop} (ho : sto ah) {f : FN} {n : Int} {g : Int} (h : ordI ah p f n) (hg : ¬ p g) (hp : ∀ x, p' x ↔ p x ∨ x = g) : ordI ah p' (insF ah g n.toNat f) (n + 1) := by
  obtain ⟨hirr, htr, htot⟩ := ho
  obtain ⟨n0, s1, m1, e1⟩ := h
  obtain ⟨j, j0, j1, j2, j3, j4, j5, j6, j7⟩ := insF_spec ah g n.toNat f
  have hn : (n.toNat : Int) = n := by omega
  rw [hn] at j1 j2 j6 j7
  have hne : ∀ i, 0 ≤ i → i < n → f i ≠ g := fun i h0 h1 e => hg (e ▸ m1 i h0 h1)
  have hbef : ∀ i, 0 ≤ i → i < j → ah (f i) g := by
    intro i h0 h1
    have hlast : ah (f (j - 1)) g := by
      rcases htot (f (j - 1)) g (hne _ (by omega) (by omega)) with q | q
      · exact q
      · exact absurd q (j3 (by omega))
    by_cases hi : i = j - 1
    · rw [hi]; exact hlast
    · exact htr _ _ _ (s1 i (j - 1) h0 (by omega) (by omega)) hlast
  refine ⟨by omega, ?_, ?_, ?_⟩
  · intro a b h0 hab hb
    by_cases hb1 : b < j
    · rw [j5 a (by omega), j5 b hb1]
      exact s1 a b h0 hab (by omega)
    · by_cases hb2 : b = j
      · rw [hb2, j4, j5 a (by omega)]
        exact hbef a h0 (by omega)
      · rw [j6 b (by omega) (by omega)]
        by_cases ha1 : a < j
        · rw [j5 a ha1]
          exact s1 a (b - 1) h0 (by omega) (by omega)
        · by_cases ha2 : a = j
          · rw [ha2, j4]
            exact j2 (b - 1) (by omega) (by omega)
          · rw [j6 a (by omega) (by omega)]
            exact s1 (a - 1) (b - 1) (by omega) (by omega) (by omega)
  · intro i h0 h1
    rw [hp]
    by_cases hi1 : i < j
    · rw [j5 i hi1]; exact Or.inl (m1 i h0 (by omega))
    · by_cases hi2 : i = j
      · rw [hi2, j4]; exact Or.inr rfl
      · rw [j6 i (by omega) (by omega)]; exact Or.inl (m1 (i - 1) (by omega) (by omega))
  · intro x hx
    rcases (hp x).mp hx with q | q
    · obtain ⟨i, i0, i1, i2⟩ := e1 x q
      by_cases hi : i < j
      · exact ⟨i, i0, by omega, by rw [j5 i hi, i2]⟩
      · exact ⟨i + 1, by omega, by omega, by rw [j6 (i + 1) (by omega) (by omega), show i + 1 - 1 = i from by omega, i2]⟩
    · exact ⟨j, j0, by omega, by rw [j4, q]⟩
theorem ordI_congr {ah ah' : Int → Int → Prop} {p p' : Int → Prop} {f f' : FN} {n : Int} (h : ordI ah p f n) (hp : ∀ x, p x ↔ p' x) (ha : ∀ a b, p a → p b → (ah a b ↔ ah' a b)) (hf : ∀ i, 0 ≤ i → i < n → f i = f' i) : ordI ah' p' f' n := by
  obtain ⟨n0, s1, m1, e1⟩ := h
  refine ⟨n0, ?_, ?_, ?_⟩
  · intro i j h0 h1 h2
    rw [← hf i h0 (by omega), ← hf j (by omega) h2]
    exact (ha _ _ (m1 i h0 (by omega)) (m1 j (by omega) h2)).mp (s1 i j h0 h1 h2)
  · intro i h0 h1
    rw [← hf i h0 h1]
    exact (hp _).mp (m1 i h0 h1)
  · intro g hg
    obtain ⟨i, i0, i1, i2⟩ := e1 g ((hp g).mpr hg)
    exact ⟨i, i0, i1, by rw [← hf i i0 i1]; exact i2⟩
/-- taken out -/
theorem ordI_del {ah : Int → Int → Prop} {p p' : Int → Prop} (ho : sto ah) {f f' : FN} {n j : Int} (h : ordI ah p f n) (hj : 0 ≤ j ∧ j < n) (hp : ∀ x, p' x ↔ p x ∧ x ≠ f j) (h1 : ∀ k, 0 ≤ k → k < j → f' k = f k) (h2 : ∀ k, j ≤ k → k < n - 1 → f' k = f (k + 1)) : ordI ah p' f' (n - 1) := by
  obtain ⟨hirr, htr, htot⟩ := ho
  obtain ⟨n0, s1, m1, e1⟩ := h
  have hne : ∀ i, 0 ≤ i → i < n → i ≠ j → f i ≠ f j := by
    intro i i0 i1 i2 e
    rcases Int.lt_or_le i j with q | q
    · have := s1 i j i0 q hj.2
      rw [e] at this
      exact hirr _ this
    · have := s1 j i hj.1 (by omega) i1
      rw [e] at this
      exact hirr _ this
  refine ⟨by omega, ?_, ?_, ?_⟩
  · intro a b a0 hab hb
    by_cases hb1 : b < j
    · rw [h1 a a0 (by omega), h1 b (by omega) hb1]; exact s1 a b a0 hab (by omega)
    · rw [h2 b (by omega) hb]
      by_cases ha1 : a < j
      · rw [h1 a a0 ha1]; exact s1 a (b + 1) a0 (by omega) (by omega)
      · rw [h2 a (by omega) (by omega)]; exact s1 (a + 1) (b + 1) (by omega) (by omega) (by omega)
  · intro i i0 i1
    rw [hp]
    by_cases hi : i < j
    · rw [h1 i i0 hi]; exact ⟨m1 i i0 (by omega), hne i i0 (by omega) (by omega)⟩
    · rw [h2 i (by omega) i1]; exact ⟨m1 (i + 1) (by omega) (by omega), hne (i + 1) (by omega) (by omega) (by omega)⟩
  · intro x hx
    obtain ⟨hx1, hx2⟩ := (hp x).mp hx
    obtain ⟨i, i0, i1, i2⟩ := e1 x hx1
    by_cases hi : i < j
    · exact ⟨i, i0, by omega, by rw [h1 i i0 hi, i2]⟩
    · by_cases hij : i = j
      · exact absurd (by rw [← i2, hij]) hx2
      · exact ⟨i - 1, by omega, by omega, by rw [h2 (i - 1) (by omega) (by omega), show i - 1 + 1 = i from by omega, i2]⟩
/-- one behind another, those of p -/
noncomputable def ordF (ah : Int → Int → Prop) (p : Int → Prop) : Nat → FN × Int → FN × Int
  | 0, q => q
  | g + 1, q => cif (p g) (insF ah g (ordF ah p g q).2.toNat (ordF ah p g q).1, (ordF ah p g q).2 + 1) (ordF ah p g q)
theorem ordF_ok {ah : Int → Int → Prop} (ho : sto ah) (p : Int → Prop) (f : FN) : ∀ (g : Nat), ordI ah (fun x => p x ∧ 0 ≤ x ∧ x < g) (ordF ah p g (f, 0)).1 (ordF ah p g (f, 0)).2 ∧ (ordF ah p g (f, 0)).2 ≤ g ∧ ((∃ x, 0 ≤ x ∧ x < (g : Int) ∧ ¬ p x) → (ordF ah p g (f, 0)).2 < g) := by
  intro g
  induction g with
  | zero =>
    refine ⟨⟨by unfold ordF; omega, fun i j h0 h1 h2 => ?_, fun i h0 h1 => ?_, fun x hx => by omega⟩, by unfold ordF; omega, fun ⟨x, h1, h2, _⟩ => by omega⟩
    · unfold ordF at h2; dsimp only at h2; omega
    · unfold ordF at h1; dsimp only at h1; omega
  | succ g ih =>
    obtain ⟨h1, h2, h3⟩ := ih
    by_cases hp : p g
    · have e : ordF ah p (g + 1) (f, 0) = (insF ah g (ordF ah p g (f, 0)).2.toNat (ordF ah p g (f, 0)).1, (ordF ah p g (f, 0)).2 + 1) := by
        rw [ordF]; exact cif_t hp _ _
      rw [e]
      refine ⟨ordI_ins ho h1 (fun h => by omega) (fun x => ?_), ?_, ?_⟩
      · constructor
        · intro ⟨a, b, c⟩
          by_cases hx : x = g
          · exact Or.inr hx
          · exact Or.inl ⟨a, b, by omega⟩
        · intro h
          rcases h with ⟨a, b, c⟩ | h
          · exact ⟨a, b, by omega⟩
          · rw [h]; exact ⟨hp, by omega, by omega⟩
      · dsimp only; omega
      · intro ⟨x, x0, x1, x2⟩
        have hx : x ≠ g := fun q => x2 (q ▸ hp)
        have := h3 ⟨x, x0, by omega, x2⟩
        dsimp only
        omega
    · have e : ordF ah p (g + 1) (f, 0) = ordF ah p g (f, 0) := by
        rw [ordF]; exact cif_f hp _ _
      rw [e]
      refine ⟨ordI_congr h1 (fun x => ?_) (fun _ _ _ _ => Iff.rfl) (fun _ _ _ => rfl), by omega, fun _ => by omega⟩
      constructor
      · intro ⟨a, b, c⟩
        exact ⟨a, b, by omega⟩
      · intro ⟨a, b, c⟩
        refine ⟨a, b, ?_⟩
        have hx : x ≠ g := fun q => hp (q ▸ a)
        omega

/-! ===== tokens ===== -/
def blk (c : Int) : Prop := c = 32 ∨ c = 10
def ltr (c : Int) : Prop := 97 ≤ c ∧ c ≤ 122
noncomputable def skp (tp : FN) (n : Int) : Nat → Int → Int
  | 0, p => p
  | m + 1, p => cif (p < n ∧ blk (tp p)) (skp tp n m (p + 1)) p
noncomputable def sk (tp : FN) (n p : Int) : Int := skp tp n (n - p).toNat p
theorem sk_step {tp : FN} {n p : Int} (h : p < n) (hb : blk (tp p)) : sk tp n p = sk tp n (p + 1) := by
  unfold sk
  have e : (n - p).toNat = (n - (p + 1)).toNat + 1 := by omega
  rw [e, skp]
  exact cif_t ⟨h, hb⟩ _ _
theorem sk_stop {tp : FN} {n p : Int} (h : ¬ (p < n ∧ blk (tp p))) : sk tp n p = p := by
  unfold sk
  cases (n - p).toNat with
  | zero => rfl
  | succ m => rw [skp]; exact cif_f h _ _
theorem sk_ok {tp : FN} {n : Int} : ∀ (m : Nat) (p : Int), (n - p).toNat = m → p ≤ sk tp n p ∧ (p ≤ n → sk tp n p ≤ n) ∧ ¬ (sk tp n p < n ∧ blk (tp (sk tp n p))) := by
  intro m
  induction m with
  | zero =>
    intro p hm
    have h : ¬ (p < n ∧ blk (tp p)) := fun h => by omega
    rw [sk_stop h]
    exact ⟨by omega, fun h => h, h⟩
  | succ m ih =>
    intro p hm
    by_cases h : p < n ∧ blk (tp p)
    · rw [sk_step h.1 h.2]
      obtain ⟨h1, h2, h3⟩ := ih (p + 1) (by omega)
      exact ⟨by omega, fun _ => h2 (by omega), h3⟩
    · rw [sk_stop h]
      exact ⟨by omega, fun h => h, h⟩
theorem sk_sk {tp : FN} {n p : Int} : sk tp n (sk tp n p) = sk tp n p := sk_stop (sk_ok _ p rfl).2.2
noncomputable def wlp (tp : FN) (n : Int) : Nat → Int → Int
  | 0, _ => 0
  | m + 1, q => cif (q < n ∧ ltr (tp q)) (1 + wlp tp n m (q + 1)) 0
noncomputable def wl (tp : FN) (n q : Int) : Int := wlp tp n (n - q).toNat q
theorem wl_step {tp : FN} {n q : Int} (h : q < n) (hb : ltr (tp q)) : wl tp n q = 1 + wl tp n (q + 1) := by
  unfold wl
  have e : (n - q).toNat = (n - (q + 1)).toNat + 1 := by omega
  rw [e, wlp]
  exact cif_t ⟨h, hb⟩ _ _
theorem wl_stop {tp : FN} {n q : Int} (h : ¬ (q < n ∧ ltr (tp q))) : wl tp n q = 0 := by
  unfold wl
  cases (n - q).toNat with
  | zero => rfl
  | succ m => rw [wlp]; exact cif_f h _ _
theorem wl_ok {tp : FN} {n : Int} : ∀ (m : Nat) (q : Int), (n - q).toNat = m → 0 ≤ wl tp n q ∧ (q ≤ n → q + wl tp n q ≤ n) ∧ ¬ (q + wl tp n q < n ∧ ltr (tp (q + wl tp n q))) := by
  intro m
  induction m with
  | zero =>
    intro q hm
    have h : ¬ (q < n ∧ ltr (tp q)) := fun h => by omega
    rw [wl_stop h]
    refine ⟨by omega, fun h => by omega, fun k => ?_⟩
    rw [Int.add_zero] at k
    exact h k
  | succ m ih =>
    intro q hm
    by_cases h : q < n ∧ ltr (tp q)
    · rw [wl_step h.1 h.2]
      obtain ⟨h1, h2, h3⟩ := ih (q + 1) (by omega)
      refine ⟨by omega, fun _ => by have := h2 (by omega); omega, fun k => h3 ?_⟩
      rw [show q + 1 + wl tp n (q + 1) = q + (1 + wl tp n (q + 1)) from by omega]
      exact k
    · rw [wl_stop h]
      refine ⟨by omega, fun h => by omega, fun k => ?_⟩
      rw [Int.add_zero] at k
      exact h k
theorem wl_pos {tp : FN} {n q : Int} (h : ¬ wl tp n q = 0) : q < n ∧ ltr (tp q) := by
  by_cases k : q < n ∧ ltr (tp q)
  · exact k
  · exact absurd (wl_stop k) h
theorem wl_pos' {tp : FN} {n q : Int} (h : q < n ∧ ltr (tp q)) : 1 ≤ wl tp n q := by
  rw [wl_step h.1 h.2]
  have := (wl_ok (tp := tp) (n := n) _ (q + 1) rfl).1
  omega
def Wby (tp : FN) (n q : Int) : Prop := wl tp n q = 2 ∧ tp q = 98 ∧ tp (q + 1) = 121
def Wle (tp : FN) (n q : Int) : Prop := wl tp n q = 5 ∧ tp q = 108 ∧ tp (q + 1) = 101 ∧ tp (q + 2) = 97 ∧ tp (q + 3) = 115 ∧ tp (q + 4) = 116
def Wmo (tp : FN) (n q : Int) : Prop := wl tp n q = 4 ∧ tp q = 109 ∧ tp (q + 1) = 111 ∧ tp (q + 2) = 115 ∧ tp (q + 3) = 116
def Wda (tp : FN) (n q : Int) : Prop := wl tp n q = 4 ∧ tp q = 100 ∧ tp (q + 1) = 97 ∧ tp (q + 2) = 116 ∧ tp (q + 3) = 101
def Wag (tp : FN) (n q : Int) : Prop := wl tp n q = 3 ∧ tp q = 97 ∧ tp (q + 1) = 103 ∧ tp (q + 2) = 101
def Wwo (tp : FN) (n q : Int) : Prop := wl tp n q = 5 ∧ tp q = 119 ∧ tp (q + 1) = 111 ∧ tp (q + 2) = 114 ∧ tp (q + 3) = 116 ∧ tp (q + 4) = 104
def Wwi (tp : FN) (n q : Int) : Prop := wl tp n q = 5 ∧ tp q = 119 ∧ tp (q + 1) = 105 ∧ tp (q + 2) = 100 ∧ tp (q + 3) = 116 ∧ tp (q + 4) = 104
def Wey (tp : FN) (n q : Int) : Prop := wl tp n q = 3 ∧ tp q = 101 ∧ tp (q + 1) = 121 ∧ tp (q + 2) = 101
noncomputable def tk (tp : FN) (n q : Int) : Int := cif (n ≤ q) 18 (cif (wl tp n q = 0) (cif (tp q = 44) 16 (cif (tp q = 59) 17 19)) (cif (wl tp n q = 1) (cif (tp q ≤ 104) (tp q - 97) 19) (cif (Wby tp n q) 8 (cif (Wle tp n q) 9 (cif (Wmo tp n q) 10 (cif (Wda tp n q) 11 (cif (Wag tp n q) 12 (cif (Wwo tp n q) 13 (cif (Wwi tp n q) 14 (cif (Wey tp n q) 15 19))))))))))
noncomputable def nx (tp : FN) (n q : Int) : Int := cif (n ≤ q) q (cif (wl tp n q = 0) (q + 1) (q + wl tp n q))
theorem tk_end {tp : FN} {n q : Int} (h : n ≤ q) : tk tp n q = 18 := by unfold tk; exact cif_t h _ _
theorem tk_ch {tp : FN} {n q : Int} (h : ¬ n ≤ q) (h0 : wl tp n q = 0) : tk tp n q = cif (tp q = 44) 16 (cif (tp q = 59) 17 19) := by
  unfold tk; rw [cif_f h, cif_t h0]
theorem tk_1 {tp : FN} {n q : Int} (h : ¬ n ≤ q) (h1 : wl tp n q = 1) : tk tp n q = cif (tp q ≤ 104) (tp q - 97) 19 := by
  unfold tk; rw [cif_f h, cif_f (by omega), cif_t h1]
theorem tk_w {tp : FN} {n q : Int} (h : ¬ n ≤ q) (h0 : ¬ wl tp n q = 0) (h1 : ¬ wl tp n q = 1) : tk tp n q = (cif (Wby tp n q) 8 (cif (Wle tp n q) 9 (cif (Wmo tp n q) 10 (cif (Wda tp n q) 11 (cif (Wag tp n q) 12 (cif (Wwo tp n q) 13 (cif (Wwi tp n q) 14 (cif (Wey tp n q) 15 19)))))))) := by
  unfold tk; rw [cif_f h, cif_f h0, cif_f h1]
theorem tk_Wby {tp : FN} {n q : Int} (h : Wby tp n q) : tk tp n q = 8 := by
  have hp := wl_pos (tp := tp) (n := n) (q := q) (by unfold Wby at h; omega)
  rw [tk_w (by omega) (by unfold Wby at h; omega) (by unfold Wby at h; omega), cif_t h]
theorem tk_Wle {tp : FN} {n q : Int} (h : Wle tp n q) : tk tp n q = 9 := by
  have hp := wl_pos (tp := tp) (n := n) (q := q) (by unfold Wle at h; omega)
  rw [tk_w (by omega) (by unfold Wle at h; omega) (by unfold Wle at h; omega), cif_f (fun k => by unfold Wby at k; unfold Wle at h; omega), cif_t h]
theorem tk_Wmo {tp : FN} {n q : Int} (h : Wmo tp n q) : tk tp n q = 10 := by
  have hp := wl_pos (tp := tp) (n := n) (q := q) (by unfold Wmo at h; omega)
  rw [tk_w (by omega) (by unfold Wmo at h; omega) (by unfold Wmo at h; omega), cif_f (fun k => by unfold Wby at k; unfold Wmo at h; omega), cif_f (fun k => by unfold Wle at k; unfold Wmo at h; omega), cif_t h]
theorem tk_Wda {tp : FN} {n q : Int} (h : Wda tp n q) : tk tp n q = 11 := by
  have hp := wl_pos (tp := tp) (n := n) (q := q) (by unfold Wda at h; omega)
  rw [tk_w (by omega) (by unfold Wda at h; omega) (by unfold Wda at h; omega), cif_f (fun k => by unfold Wby at k; unfold Wda at h; omega), cif_f (fun k => by unfold Wle at k; unfold Wda at h; omega), cif_f (fun k => by unfold Wmo at k; unfold Wda at h; omega), cif_t h]
theorem tk_Wag {tp : FN} {n q : Int} (h : Wag tp n q) : tk tp n q = 12 := by
  have hp := wl_pos (tp := tp) (n := n) (q := q) (by unfold Wag at h; omega)
  rw [tk_w (by omega) (by unfold Wag at h; omega) (by unfold Wag at h; omega), cif_f (fun k => by unfold Wby at k; unfold Wag at h; omega), cif_f (fun k => by unfold Wle at k; unfold Wag at h; omega), cif_f (fun k => by unfold Wmo at k; unfold Wag at h; omega), cif_f (fun k => by unfold Wda at k; unfold Wag at h; omega), cif_t h]
theorem tk_Wwo {tp : FN} {n q : Int} (h : Wwo tp n q) : tk tp n q = 13 := by
  have hp := wl_pos (tp := tp) (n := n) (q := q) (by unfold Wwo at h; omega)
  rw [tk_w (by omega) (by unfold Wwo at h; omega) (by unfold Wwo at h; omega), cif_f (fun k => by unfold Wby at k; unfold Wwo at h; omega), cif_f (fun k => by unfold Wle at k; unfold Wwo at h; omega), cif_f (fun k => by unfold Wmo at k; unfold Wwo at h; omega), cif_f (fun k => by unfold Wda at k; unfold Wwo at h; omega), cif_f (fun k => by unfold Wag at k; unfold Wwo at h; omega), cif_t h]
theorem tk_Wwi {tp : FN} {n q : Int} (h : Wwi tp n q) : tk tp n q = 14 := by
  have hp := wl_pos (tp := tp) (n := n) (q := q) (by unfold Wwi at h; omega)
  rw [tk_w (by omega) (by unfold Wwi at h; omega) (by unfold Wwi at h; omega), cif_f (fun k => by unfold Wby at k; unfold Wwi at h; omega), cif_f (fun k => by unfold Wle at k; unfold Wwi at h; omega), cif_f (fun k => by unfold Wmo at k; unfold Wwi at h; omega), cif_f (fun k => by unfold Wda at k; unfold Wwi at h; omega), cif_f (fun k => by unfold Wag at k; unfold Wwi at h; omega), cif_f (fun k => by unfold Wwo at k; unfold Wwi at h; omega), cif_t h]
theorem tk_Wey {tp : FN} {n q : Int} (h : Wey tp n q) : tk tp n q = 15 := by
  have hp := wl_pos (tp := tp) (n := n) (q := q) (by unfold Wey at h; omega)
  rw [tk_w (by omega) (by unfold Wey at h; omega) (by unfold Wey at h; omega), cif_f (fun k => by unfold Wby at k; unfold Wey at h; omega), cif_f (fun k => by unfold Wle at k; unfold Wey at h; omega), cif_f (fun k => by unfold Wmo at k; unfold Wey at h; omega), cif_f (fun k => by unfold Wda at k; unfold Wey at h; omega), cif_f (fun k => by unfold Wag at k; unfold Wey at h; omega), cif_f (fun k => by unfold Wwo at k; unfold Wey at h; omega), cif_f (fun k => by unfold Wwi at k; unfold Wey at h; omega), cif_t h]
/-- what a token can be -/
theorem tk_cases (tp : FN) (n q : Int) : (n ≤ q ∧ tk tp n q = 18) ∨ (q < n ∧ wl tp n q = 0 ∧ ((tp q = 44 ∧ tk tp n q = 16) ∨ (tp q = 59 ∧ tk tp n q = 17) ∨ (tp q ≠ 44 ∧ tp q ≠ 59 ∧ tk tp n q = 19))) ∨ (q < n ∧ wl tp n q = 1 ∧ ((tp q ≤ 104 ∧ tk tp n q = tp q - 97) ∨ (104 < tp q ∧ tk tp n q = 19))) ∨ (q < n ∧ 2 ≤ wl tp n q ∧ ((Wby tp n q ∧ tk tp n q = 8) ∨ (Wle tp n q ∧ tk tp n q = 9) ∨ (Wmo tp n q ∧ tk tp n q = 10) ∨ (Wda tp n q ∧ tk tp n q = 11) ∨ (Wag tp n q ∧ tk tp n q = 12) ∨ (Wwo tp n q ∧ tk tp n q = 13) ∨ (Wwi tp n q ∧ tk tp n q = 14) ∨ (Wey tp n q ∧ tk tp n q = 15) ∨ (¬ Wby tp n q ∧ ¬ Wle tp n q ∧ ¬ Wmo tp n q ∧ ¬ Wda tp n q ∧ ¬ Wag tp n q ∧ ¬ Wwo tp n q ∧ ¬ Wwi tp n q ∧ ¬ Wey tp n q ∧ tk tp n q = 19))) := by
  by_cases h : n ≤ q
  · exact Or.inl ⟨h, tk_end h⟩
  · by_cases h0 : wl tp n q = 0
    · refine Or.inr (Or.inl ⟨by omega, h0, ?_⟩)
      rw [tk_ch h h0]
      by_cases a : tp q = 44
      · exact Or.inl ⟨a, cif_t a _ _⟩
      · by_cases b : tp q = 59
        · exact Or.inr (Or.inl ⟨b, by rw [cif_f a, cif_t b]⟩)
        · exact Or.inr (Or.inr ⟨a, b, by rw [cif_f a, cif_f b]⟩)
    · by_cases h1 : wl tp n q = 1
      · refine Or.inr (Or.inr (Or.inl ⟨by omega, h1, ?_⟩))
        rw [tk_1 h h1]
        by_cases a : tp q ≤ 104
        · exact Or.inl ⟨a, cif_t a _ _⟩
        · exact Or.inr ⟨by omega, cif_f a _ _⟩
      · have hw := (wl_ok (tp := tp) (n := n) _ q rfl).1
        refine Or.inr (Or.inr (Or.inr ⟨by omega, by omega, ?_⟩))
        by_cases a0 : Wby tp n q
        · exact (Or.inl ⟨a0, tk_Wby a0⟩)
        by_cases a1 : Wle tp n q
        · exact (Or.inr (Or.inl ⟨a1, tk_Wle a1⟩))
        by_cases a2 : Wmo tp n q
        · exact (Or.inr (Or.inr (Or.inl ⟨a2, tk_Wmo a2⟩)))
        by_cases a3 : Wda tp n q
        · exact (Or.inr (Or.inr (Or.inr (Or.inl ⟨a3, tk_Wda a3⟩))))
        by_cases a4 : Wag tp n q
        · exact (Or.inr (Or.inr (Or.inr (Or.inr (Or.inl ⟨a4, tk_Wag a4⟩)))))
        by_cases a5 : Wwo tp n q
        · exact (Or.inr (Or.inr (Or.inr (Or.inr (Or.inr (Or.inl ⟨a5, tk_Wwo a5⟩))))))
        by_cases a6 : Wwi tp n q
        · exact (Or.inr (Or.inr (Or.inr (Or.inr (Or.inr (Or.inr (Or.inl ⟨a6, tk_Wwi a6⟩)))))))
        by_cases a7 : Wey tp n q
        · exact (Or.inr (Or.inr (Or.inr (Or.inr (Or.inr (Or.inr (Or.inr (Or.inl ⟨a7, tk_Wey a7⟩))))))))
        exact (Or.inr (Or.inr (Or.inr (Or.inr (Or.inr (Or.inr (Or.inr (Or.inr ⟨a0, a1, a2, a3, a4, a5, a6, a7, by rw [tk_w h h0 h1, cif_f a0, cif_f a1, cif_f a2, cif_f a3, cif_f a4, cif_f a5, cif_f a6, cif_f a7]⟩))))))))
/-- where the next token begins: not at once behind a word -/
theorem sk_gap {tp : FN} {n q : Int} (h : ¬ wl tp n q = 0) (hw : ¬ wl tp n (sk tp n (q + wl tp n q)) = 0) : q + wl tp n q + 1 ≤ sk tp n (q + wl tp n q) := by
  obtain ⟨h1, h2, h3⟩ := wl_ok (tp := tp) (n := n) _ q rfl
  obtain ⟨k1, k2, k3⟩ := sk_ok (tp := tp) (n := n) _ (q + wl tp n q) rfl
  have hp := wl_pos hw
  by_cases e : sk tp n (q + wl tp n q) = q + wl tp n q
  · rw [e] at hp
    exact absurd hp h3
  · omega
theorem nx_ok {tp : FN} {n q : Int} (h : q < n) : q + 1 ≤ nx tp n q ∧ nx tp n q ≤ n := by
  obtain ⟨h1, h2, h3⟩ := wl_ok (tp := tp) (n := n) _ q rfl
  unfold nx
  rw [cif_f (by omega)]
  by_cases h0 : wl tp n q = 0
  · rw [cif_t h0]; omega
  · rw [cif_f h0]; have := h2 (by omega); omega
theorem nx_c {tp : FN} {n q : Int} (h : q < n) (h0 : wl tp n q = 0) : nx tp n q = q + 1 := by
  unfold nx
  rw [cif_f (by omega), cif_t h0]
theorem nx_w {tp : FN} {n q : Int} (h0 : ¬ wl tp n q = 0) : nx tp n q = q + wl tp n q := by
  have := wl_pos h0
  unfold nx
  rw [cif_f (by omega), cif_f h0]

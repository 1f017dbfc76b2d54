/-! ===== Math.floorDiv ===== -/
theorem msb_i {a : Int} (h : inR a) : (Int32.ofInt a).toBitVec.msb = decide (a < 0) := by
  rw [BitVec.msb_eq_toInt]
  have : (Int32.ofInt a).toBitVec.toInt = a := Int32.toInt_ofInt_of_le h.1 h.2
  rw [this]
theorem xor_neg {a b : Int} (ha : inR a) (hb : 0 ≤ b ∧ b < 2147483648) : bXor a b < 0 ↔ a < 0 := by
  have h1 : (Int32.ofInt a ^^^ Int32.ofInt b).toBitVec.msb = decide (a < 0) := by
    rw [Int32.toBitVec_xor, BitVec.msb_xor, msb_i ha, msb_i ⟨by omega, hb.2⟩, decide_eq_false (show ¬ b < 0 by omega), Bool.xor_false]
  rw [BitVec.msb_eq_toInt] at h1
  have h2 : bXor a b = (Int32.ofInt a ^^^ Int32.ofInt b).toBitVec.toInt := rfl
  rw [h2]
  exact decide_eq_decide.mp h1
theorem xor_inR (a b : Int) : inR (bXor a b) := ⟨Int32.le_toInt _, Int32.toInt_lt _⟩
theorem ediv_of {x y q : Int} (hy : 0 < y) (h1 : q * y ≤ x) (h2 : x < (q + 1) * y) : x / y = q := by
  have a1 : q ≤ x / y := (Int.le_ediv_iff_mul_le hy).mpr h1
  have a2 : x / y < q + 1 := (Int.ediv_lt_iff_lt_mul hy).mpr h2
  omega
theorem fl_pos {x y : Int} (hx : 0 ≤ x) : Int.tdiv x y = x / y := Int.tdiv_eq_ediv_of_nonneg hx
theorem fl_neg {x y : Int} (hy : 0 < y) (hx : x < 0) : x / y = if Int.tdiv x y * y = x then Int.tdiv x y else Int.tdiv x y - 1 := by
  have e := Int.tmod_add_mul_tdiv x y
  have h1 : -y < Int.tmod x y := by
    have := Int.lt_tmod_of_pos x hy
    exact this
  have h2 : Int.tmod x y ≤ 0 := by
    have h3 : Int.tmod (-x) y ≥ 0 := Int.tmod_nonneg y (by omega)
    rw [Int.neg_tmod] at h3
    omega
  rw [Int.mul_comm] at e
  have e2 : (Int.tdiv x y - 1) * y = Int.tdiv x y * y - y := by rw [Int.sub_mul]; omega
  have e3 : (Int.tdiv x y + 1) * y = Int.tdiv x y * y + y := by rw [Int.add_mul]; omega
  have e4 : (Int.tdiv x y - 1 + 1) * y = Int.tdiv x y * y := by congr 1; omega
  by_cases h : Int.tdiv x y * y = x
  · rw [if_pos h]
    exact ediv_of hy (by omega) (by omega)
  · rw [if_neg h]
    exact ediv_of hy (by omega) (by omega)
theorem s_floorDiv {X : AX} (d : Nat) (h : AH) (x y : Int) (hx : -1000000000 ≤ x ∧ x ≤ 1000000000) (hy : 0 < y ∧ y ≤ 100000) : AF X (d + 1) 0 0 145 [iv x, iv y] h (some (iv (x / y))) h := by
  have hxn := xor_neg (a := x) (b := y) ⟨by omega, by omega⟩ (by omega)
  obtain ⟨x1, x2⟩ := xor_inR x y
  refine aw_tree (In_ok X 0) [] [] rfl ?_
  by_cases h0 : 0 ≤ x
  · have e := fl_pos (y := y) h0
    repeat' (first | refine And.intro ?_ ?_ | (refine aImp_e0 ?_; intro _) | (refine aImp_n0 ?_; intro _) | (refine aImp_i ?_; intro _))
    all_goals (try (first | omega | exact bI_01 _ | exact bI_lo _ | exact bI_hi _ | exact bI_hi' _ | exact trivial | exact Or.inl rfl | exact Or.inr rfl | (exfalso; omega)))
    all_goals first
      | (show some (Sum.inl (Int.tdiv x y)) = some (Sum.inl (x / y)); rw [e])
      | rfl
      | (exfalso; omega)
  · have e := fl_neg hy.1 (show x < 0 by omega)
    have e1 := Int.tmod_add_mul_tdiv x y
    rw [Int.mul_comm] at e1
    have t1 : -y < Int.tmod x y := Int.lt_tmod_of_pos x hy.1
    have t2 : Int.tmod x y ≤ 0 := by
      have h3 : Int.tmod (-x) y ≥ 0 := Int.tmod_nonneg y (by omega)
      rw [Int.neg_tmod] at h3
      omega
    repeat' (first | refine And.intro ?_ ?_ | (refine aImp_e0 ?_; intro _) | (refine aImp_n0 ?_; intro _) | (refine aImp_i ?_; intro _))
    all_goals (try (first | omega | exact bI_01 _ | exact bI_lo _ | exact bI_hi _ | exact bI_hi' _ | exact trivial | exact Or.inl rfl | exact Or.inr rfl | (exfalso; omega)))
    all_goals first
      | (exfalso; omega)
      | (show some (Sum.inl (Int.tdiv x y)) = some (Sum.inl (x / y)); rw [e, if_pos (by omega)])
      | (show some (Sum.inl (Int.tdiv x y - 1)) = some (Sum.inl (x / y)); rw [e, if_neg (by omega)])
      | rfl
/-! ===== who hides the stage: the class ===== -/
/-- hall and benches against the model's rows -/
def rH (L : TyL) (β : List TyBn) (mR : TyMR) : Prop := L.2.1 = mR.2.2.2.1 ∧ hlB L ∧ (β.length : Int) = mR.2.2.2.1 ∧ (∀ (r : Nat) (b : TyBn), β[r]? = some b → b.1 = r ∧ b.2.1 = mR.1 r ∧ b.2.2.1 = mR.2.1 r ∧ b.2.2.2.1 = mR.2.2.1 r) ∧ L.2.2.1 = mR.2.2.2.2.1 ∧ L.2.2.2.1 = mR.2.2.2.2.2.1 ∧ L.2.2.2.2 = mR.2.2.2.2.2.2 ∧ kR mR
theorem far_lt {mR : TyMR} (h : kR mR) : ∀ (k : Nat) (a : Int), 0 ≤ a → a + 1 + k < mR.2.2.2.1 → mR.2.2.1 a + 20 ≤ mR.2.2.1 (a + 1 + k) := by
  intro k
  induction k with
  | zero =>
    intro a a0 a1
    have := h.2.2.1 a a0 (by push_cast at a1; omega)
    rw [show a + 1 + ((0 : Nat) : Int) = a + 1 from by push_cast; omega]
    exact this
  | succ k ih =>
    intro a a0 a1
    have h1 := ih a a0 (by push_cast at a1; omega)
    have h2 := h.2.2.1 (a + 1 + k) (by omega) (by push_cast at a1; omega)
    rw [show a + 1 + ((k + 1 : Nat) : Int) = a + 1 + k + 1 from by push_cast; omega]
    omega
theorem far_lt' {mR : TyMR} (h : kR mR) {a b : Int} (ha : 0 ≤ a) (hab : a < b) (hb : b < mR.2.2.2.1) : mR.2.2.1 a + 20 ≤ mR.2.2.1 b := by
  have := far_lt h (b - a - 1).toNat a ha (by omega)
  rw [show a + 1 + ((b - a - 1).toNat : Int) = b from by omega] at this
  exact this
def bfC (S : TyS) (G : TyG) (h g : Int) : Prop := S.1 h < S.1 g ∧ 2 * S.2.1 h ≤ 2 * S.2.1 g + G.2.2.2.1 g ∧ 2 * S.2.1 g + G.2.2.2.1 g ≤ 2 * S.2.1 h + 2 * G.2.2.2.1 h - 1
def ovC (mR : TyMR) (S : TyS) (G : TyG) (h g : Int) : Int := (mR.2.1 (S.1 h) + G.2.2.2.2.1 h + 5) * mR.2.2.1 (S.1 g) - (mR.2.1 (S.1 g) + G.2.2.2.2.1 g) * mR.2.2.1 (S.1 h)
def clC (mR : TyMR) (S : TyS) (G : TyG) (h g : Int) : Int := -(-(ovC mR S G h g) / (mR.2.2.1 (S.1 g) - mR.2.2.1 (S.1 h)))
theorem ovC_r {mR : TyMR} {S : TyS} {G : TyG} {h g : Int} (hR : kR mR) (hG : kW G) (hh : 0 ≤ h ∧ h < 32) (hg : 0 ≤ g ∧ g < 32) (h1 : 0 ≤ S.1 h ∧ S.1 h < mR.2.2.2.1) (h2 : 0 ≤ S.1 g ∧ S.1 g < mR.2.2.2.1) : -400000 ≤ ovC mR S G h g ∧ ovC mR S G h g ≤ 400000 := by
  have a1 := hR.2.1 _ h1.1 h1.2
  have a2 := hR.2.1 _ h2.1 h2.2
  have a3 := hR.1
  have w1 := (hG h hh.1 hh.2).2
  have w2 := (hG g hg.1 hg.2).2
  have m1 := mul_b (a := mR.2.1 (S.1 h) + G.2.2.2.2.1 h + 5) (b := mR.2.2.1 (S.1 g)) (by omega) (by omega)
  have m2 := mul_b (a := mR.2.1 (S.1 g) + G.2.2.2.2.1 g) (b := mR.2.2.1 (S.1 h)) (by omega) (by omega)
  unfold ovC
  omega
theorem clC_lt {mR : TyMR} {S : TyS} {G : TyG} {h g : Int} (hd : mR.2.2.1 (S.1 h) < mR.2.2.1 (S.1 g)) (high : Int) : high < clC mR S G h g ↔ (mR.2.1 (S.1 g) + G.2.2.2.2.1 g - high) * mR.2.2.1 (S.1 h) < (mR.2.1 (S.1 h) + G.2.2.2.2.1 h + 5 - high) * mR.2.2.1 (S.1 g) := by
  have hy : 0 < mR.2.2.1 (S.1 g) - mR.2.2.1 (S.1 h) := by omega
  have e1 : (mR.2.1 (S.1 g) + G.2.2.2.2.1 g - high) * mR.2.2.1 (S.1 h) = (mR.2.1 (S.1 g) + G.2.2.2.2.1 g) * mR.2.2.1 (S.1 h) - high * mR.2.2.1 (S.1 h) := Int.sub_mul _ _ _
  have e2 : (mR.2.1 (S.1 h) + G.2.2.2.2.1 h + 5 - high) * mR.2.2.1 (S.1 g) = (mR.2.1 (S.1 h) + G.2.2.2.2.1 h + 5) * mR.2.2.1 (S.1 g) - high * mR.2.2.1 (S.1 g) := Int.sub_mul _ _ _
  have e3 : high * (mR.2.2.1 (S.1 g) - mR.2.2.1 (S.1 h)) = high * mR.2.2.1 (S.1 g) - high * mR.2.2.1 (S.1 h) := Int.mul_sub _ _ _
  have e4 : (-high) * (mR.2.2.1 (S.1 g) - mR.2.2.1 (S.1 h)) = -(high * (mR.2.2.1 (S.1 g) - mR.2.2.1 (S.1 h))) := Int.neg_mul _ _
  have k : -(ovC mR S G h g) / (mR.2.2.1 (S.1 g) - mR.2.2.1 (S.1 h)) < -high ↔ -(ovC mR S G h g) < (-high) * (mR.2.2.1 (S.1 g) - mR.2.2.1 (S.1 h)) := Int.ediv_lt_iff_lt_mul hy
  have eo : ovC mR S G h g = (mR.2.1 (S.1 h) + G.2.2.2.2.1 h + 5) * mR.2.2.1 (S.1 g) - (mR.2.1 (S.1 g) + G.2.2.2.2.1 g) * mR.2.2.1 (S.1 h) := rfl
  have ec : clC mR S G h g = -(-(ovC mR S G h g) / (mR.2.2.1 (S.1 g) - mR.2.2.1 (S.1 h))) := rfl
  rw [e4, e3] at k
  rw [e1, e2, ec]
  constructor
  · intro q
    have := k.mp (by omega)
    omega
  · intro q
    have := k.mpr (by omega)
    omega
theorem clC_r {mR : TyMR} {S : TyS} {G : TyG} {h g : Int} (hd : mR.2.2.1 (S.1 h) + 20 ≤ mR.2.2.1 (S.1 g)) (ho : -400000 ≤ ovC mR S G h g ∧ ovC mR S G h g ≤ 400000) : -400000 ≤ clC mR S G h g ∧ clC mR S G h g ≤ 400000 := by
  have hy : 0 < mR.2.2.1 (S.1 g) - mR.2.2.1 (S.1 h) := by omega
  have ec : clC mR S G h g = -(-(ovC mR S G h g) / (mR.2.2.1 (S.1 g) - mR.2.2.1 (S.1 h))) := rfl
  have a1 : -400000 ≤ -(ovC mR S G h g) / (mR.2.2.1 (S.1 g) - mR.2.2.1 (S.1 h)) := by
    refine (Int.le_ediv_iff_mul_le hy).mpr ?_
    have : (-400000) * (mR.2.2.1 (S.1 g) - mR.2.2.1 (S.1 h)) ≤ (-400000) * 1 := Int.mul_le_mul_of_nonpos_left (by omega) (by omega)
    omega
  have a2 : -(ovC mR S G h g) / (mR.2.2.1 (S.1 g) - mR.2.2.1 (S.1 h)) < 400001 := by
    refine (Int.ediv_lt_iff_lt_mul hy).mpr ?_
    have : 400001 * 1 ≤ 400001 * (mR.2.2.1 (S.1 g) - mR.2.2.1 (S.1 h)) := Int.mul_le_mul_of_nonneg_left (by omega) (by omega)
    omega
  omega

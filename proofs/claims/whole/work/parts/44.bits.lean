/-! ===== Int32 by its bits: bt x i ===== -/
def bt (x : Int32) (i : Nat) : Bool := x.toBitVec.getLsbD i
theorem b_ext {x y : Int32} (h : ∀ i, i < 32 → bt x i = bt y i) : x = y := Int32.toBitVec_inj.mp (BitVec.eq_of_getLsbD_eq (fun i hi => h i hi))
theorem b_or (x y : Int32) (i : Nat) : bt (x ||| y) i = (bt x i || bt y i) := by unfold bt; rw [Int32.toBitVec_or, BitVec.getLsbD_or]
theorem b_and (x y : Int32) (i : Nat) : bt (x &&& y) i = (bt x i && bt y i) := by unfold bt; rw [Int32.toBitVec_and, BitVec.getLsbD_and]
theorem b_xor (x y : Int32) (i : Nat) : bt (x ^^^ y) i = (bt x i ^^ bt y i) := by unfold bt; rw [Int32.toBitVec_xor, BitVec.getLsbD_xor]
theorem b_big {x : Int32} {i : Nat} (h : 32 ≤ i) : bt x i = false := BitVec.getLsbD_of_ge _ _ h
theorem b_255 (i : Nat) : bt 255 i = decide (i < 8) := by
  rcases Nat.lt_or_ge i 32 with h | h
  · exact (by decide +kernel : ∀ i, i < 32 → bt 255 i = decide (i < 8)) i h
  · rw [b_big h, decide_eq_false (by omega)]
theorem b_0 (i : Nat) : bt 0 i = false := BitVec.getLsbD_zero
theorem s_l : ∀ n, n < 32 → ((nI n &&& 31).toBitVec.smod 32).toNat = n := by decide +kernel
theorem s_u : ∀ n, n < 32 → (((nI n).toUInt32 &&& Int32.toUInt32 31).toBitVec % 32).toNat = n := by decide +kernel
theorem b_shl (n : Nat) (hn : n < 32) (x : Int32) {i : Nat} (hi : i < 32) : bt (x <<< (nI n &&& 31)) i = (decide (n ≤ i) && bt x (i - n)) := by
  unfold bt
  rw [Int32.toBitVec_shiftLeft]
  show (x.toBitVec <<< ((nI n &&& 31).toBitVec.smod 32).toNat).getLsbD i = _
  rw [s_l n hn, BitVec.getLsbD_shiftLeft]
  rcases Nat.lt_or_ge i n with h | h
  · simp [h, Nat.not_le.mpr h]
  · simp [hi, h, Nat.not_lt.mpr h]
theorem b_ushr (n : Nat) (hn : n < 32) (x : Int32) (i : Nat) : bt ((x.toUInt32 >>> ((nI n).toUInt32 &&& Int32.toUInt32 31)).toInt32) i = bt x (n + i) := by
  show (x.toUInt32 >>> ((nI n).toUInt32 &&& Int32.toUInt32 31)).toBitVec.getLsbD i = x.toUInt32.toBitVec.getLsbD (n + i)
  rw [UInt32.toBitVec_shiftRight]
  show (x.toUInt32.toBitVec >>> (((nI n).toUInt32 &&& Int32.toUInt32 31).toBitVec % 32).toNat).getLsbD i = _
  rw [s_u n hn, BitVec.getLsbD_ushiftRight]
theorem b_sshr (n : Nat) (hn : n < 32) (x : Int32) {i : Nat} (hi : i < 32) : bt (x >>> (nI n &&& 31)) i = if n + i < 32 then bt x (n + i) else bt x 31 := by
  unfold bt
  rw [Int32.toBitVec_shiftRight]
  show (x.toBitVec.sshiftRight ((nI n &&& 31).toBitVec.smod 32).toNat).getLsbD i = _
  rw [s_l n hn, BitVec.getLsbD_sshiftRight, BitVec.msb_eq_getLsbD_last]
  simp [hi]
/-! ===== a byte read unsigned ===== -/
theorem bp_b (x : Int32) : x.toInt8.toInt32 &&& 255 = x &&& 255 := by
  apply Int32.toBitVec_inj.mp
  rw [Int32.toBitVec_and, Int32.toBitVec_and, Int8.toBitVec_toInt32, Int32.toBitVec_toInt8]
  apply BitVec.eq_of_getLsbD_eq
  intro i hi
  rw [BitVec.getLsbD_and, BitVec.getLsbD_and]
  have hm : ∀ i < 32, 8 ≤ i → (255 : Int32).toBitVec.getLsbD i = false := by decide
  rcases Nat.lt_or_ge i 8 with z | z
  · rw [BitVec.getLsbD_signExtend, BitVec.getLsbD_signExtend, if_pos z, if_pos hi]
    simp only [z, hi, decide_true, Bool.true_and]
  · rw [hm i hi z]; simp
/-! ===== (mine) ===== -/
theorem oi_t (x : Int32) : Int32.ofInt x.toInt = x := Int32.ofInt_toInt x
theorem oi_n (n : Nat) : Int32.ofInt (n : Int) = nI n := Int32.toBitVec_inj.mp (BitVec.ofInt_natCast 32 n)
theorem b_one : ∀ i, i < 32 → bt 1 i = decide (i = 0) := by decide +kernel
noncomputable def bitI (x j : Int) : Int := bAnd (bUshr x j) 1
theorem bitI_bt (x : Int) (n : Nat) (hn : n < 32) : bitI x n = if bt (Int32.ofInt x) n then 1 else 0 := by
  unfold bitI bAnd bUshr
  rw [oi_t, oi_n, show Int32.ofInt 1 = 1 from rfl]
  have e : ((Int32.ofInt x).toUInt32 >>> ((nI n).toUInt32 &&& Int32.toUInt32 31)).toInt32 &&& 1 = if bt (Int32.ofInt x) n then 1 else 0 := by
    apply b_ext
    intro i hi
    rw [b_and, b_ushr n hn, b_one i hi]
    by_cases h0 : i = 0
    · subst h0
      rw [Nat.add_zero]
      cases bt (Int32.ofInt x) n <;> decide
    · rw [decide_eq_false h0, Bool.and_false]
      cases bt (Int32.ofInt x) n
      · exact (b_0 i).symm
      · show false = bt 1 i
        rw [b_one i hi, decide_eq_false h0]
  rw [e]
  cases bt (Int32.ofInt x) n <;> decide
theorem bitI_01 {x j : Int} (hj : 0 ≤ j ∧ j < 32) : bitI x j = 0 ∨ bitI x j = 1 := by
  obtain ⟨n, rfl⟩ : ∃ n : Nat, j = n := ⟨j.toNat, by omega⟩
  rw [bitI_bt x n (by omega)]
  cases bt (Int32.ofInt x) n <;> decide
theorem bitI_0 {j : Int} (hj : 0 ≤ j ∧ j < 32) : bitI 0 j = 0 := by
  obtain ⟨n, rfl⟩ : ∃ n : Nat, j = n := ⟨j.toNat, by omega⟩
  rw [bitI_bt 0 n (by omega), show Int32.ofInt 0 = 0 from rfl, b_0]
  rfl
theorem oi_shl (k : Nat) : Int32.ofInt (bShl 1 k) = (1 : Int32) <<< (nI k &&& 31) := by
  unfold bShl
  rw [oi_t, oi_n]
  rfl
theorem b_pow (k j : Nat) (hk : k < 32) (hj : j < 32) : bt ((1 : Int32) <<< (nI k &&& 31)) j = decide (j = k) := by
  rw [b_shl k hk 1 hj]
  by_cases h : k ≤ j
  · rw [b_one (j - k) (by omega), decide_eq_true h, Bool.true_and]
    by_cases e : j = k
    · rw [decide_eq_true e, decide_eq_true (by omega)]
    · rw [decide_eq_false e, decide_eq_false (by omega)]
  · rw [decide_eq_false h, Bool.false_and, decide_eq_false (by omega)]
theorem bitI_or {x k j : Int} (hk : 0 ≤ k ∧ k < 32) (hj : 0 ≤ j ∧ j < 32) : bitI (bOr x (bShl 1 k)) j = if j = k then 1 else bitI x j := by
  obtain ⟨n, rfl⟩ : ∃ n : Nat, j = n := ⟨j.toNat, by omega⟩
  obtain ⟨m, rfl⟩ : ∃ m : Nat, k = m := ⟨k.toNat, by omega⟩
  rw [bitI_bt _ n (by omega), bitI_bt _ n (by omega)]
  have e : Int32.ofInt (bOr x (bShl 1 m)) = Int32.ofInt x ||| ((1 : Int32) <<< (nI m &&& 31)) := by
    unfold bOr
    rw [oi_t, oi_shl]
  rw [e, b_or, b_pow m n (by omega) (by omega)]
  by_cases h : n = m
  · rw [decide_eq_true h, Bool.or_true, if_pos rfl, if_pos (by omega)]
  · rw [decide_eq_false h, Bool.or_false, if_neg (show ¬ (n : Int) = m from by omega)]
theorem bitI_xor {x k j : Int} (hk : 0 ≤ k ∧ k < 32) (hj : 0 ≤ j ∧ j < 32) : bitI (bXor x (bShl 1 k)) j = if j = k then 1 - bitI x j else bitI x j := by
  obtain ⟨n, rfl⟩ : ∃ n : Nat, j = n := ⟨j.toNat, by omega⟩
  obtain ⟨m, rfl⟩ : ∃ m : Nat, k = m := ⟨k.toNat, by omega⟩
  rw [bitI_bt _ n (by omega), bitI_bt _ n (by omega)]
  have e : Int32.ofInt (bXor x (bShl 1 m)) = Int32.ofInt x ^^^ ((1 : Int32) <<< (nI m &&& 31)) := by
    unfold bXor
    rw [oi_t, oi_shl]
  rw [e, b_xor, b_pow m n (by omega) (by omega)]
  by_cases h : n = m
  · rw [decide_eq_true h, if_pos (show (n : Int) = m from by omega)]
    cases bt (Int32.ofInt x) n <;> decide
  · rw [decide_eq_false h, if_neg (show ¬ (n : Int) = m from by omega)]
    cases bt (Int32.ofInt x) n <;> decide
/-- a byte of a number, as the office keeps it and as the model does -/
theorem byte_eq (v : Int) (s : Nat) (hs : s ≤ 24) : bAnd (bByte (bByte (bUshr v s))) 255 = bAnd (bShr v s) 255 := by
  have e1 : bAnd (bByte (bByte (bUshr v s))) 255 = (((Int32.ofInt v).toUInt32 >>> ((nI s).toUInt32 &&& Int32.toUInt32 31)).toInt32 &&& 255).toInt := by
    unfold bAnd bByte bUshr
    rw [oi_t, oi_t, oi_t, oi_n, show Int32.ofInt 255 = 255 from rfl, bp_b, bp_b]
  have e2 : bAnd (bShr v s) 255 = ((Int32.ofInt v >>> (nI s &&& 31)) &&& 255).toInt := by
    unfold bAnd bShr
    rw [oi_t, oi_n]
    rfl
  rw [e1, e2]
  congr 1
  apply b_ext
  intro i hi
  rw [b_and, b_and, b_255, b_ushr s (by omega), b_sshr s (by omega) _ hi]
  by_cases h : i < 8
  · rw [if_pos (by omega)]
  · rw [decide_eq_false h, Bool.and_false, Bool.and_false]
theorem and255_r (x : Int) : 0 ≤ bAnd x 255 ∧ bAnd x 255 ≤ 255 := by
  have e : bAnd x 255 = (((Int32.ofInt x).toBitVec &&& 255#32).toInt) := rfl
  have hlt : ((Int32.ofInt x).toBitVec &&& 255#32).toNat ≤ 255 := by
    rw [BitVec.toNat_and]
    exact Nat.and_le_right
  rw [e, BitVec.toInt_eq_toNat_of_lt (by omega)]
  omega

/-! ===== the planner: what it holds ===== -/
theorem aw_get {X : AX} {mi j d kc ks o pc len c k z i : Nat} {ls rest fs : List AV} {h : AH} {Q : AQ} {q : Nat} {v : AV} (he : (mE mi)[j]? = some (o, pc, .getfield i, len, [c, k, z])) (hh : h[q]? = some (.inr (.inr (c, fs)))) (hv : fs[k]? = some v) (kk : AW X d kc ks mi (j + 1) ls (v :: rest) h Q) : AW X d kc ks mi j ls (rf q :: rest) h Q := by
  refine AWc.step ⟨_, he, Or.inl ⟨0, none, none, ls, v :: rest, h, kc, ks, ?_, trivial, kk⟩⟩
  show sGet [c, k, z] ls (rf q :: rest) h kc ks = _
  unfold sGet
  dsimp only
  rw [hh]
  dsimp only
  rw [Nat.beq_refl c]
  dsimp only
  rw [hv]
theorem c_slot {X : AX} (d : Nat) (h : AH) (q : Nat) (a : AV) (w i p : Int) (fs : List AV) (hh : h[q]? = some (.inr (.inr (0, a :: .inl w :: fs)))) : AF X (d + 1) 0 0 2 [rf q, iv i, iv p] h (some (iv (i * (w + 1) + p))) h := by
  refine aw_tree (In_ok X 0) [] [2] rfl ?_
  refine aw_get rfl hh rfl ?_
  refine aw_tree (In_ok X 0) [] [] rfl ?_
  exact ⟨rfl, rfl⟩
noncomputable def I1 : AI := fun mj h as => match mj with
  | 2 => match as with
    | [.inr (.inr (.inl (some q))), .inl i, .inl p] => match h[q]? with
      | some (.inr (.inr (0, _ :: .inl w :: _))) => some (True, some (.inl (i * (w + 1) + p)), h)
      | _ => none
    | _ => none
  | m => I0 m h as
theorem I1_ok (X : AX) (k : Nat) : AIok X (k + 1) I1 := by
  intro mj h as C r h' hi hC d
  unfold I1 at hi
  split at hi
  · split at hi
    · split at hi
      · next hh =>
        cases hi
        exact c_slot (d + k) h _ _ _ _ _ _ hh
      · cases hi
    · cases hi
  · exact I0_ok X k _ h as C r h' hi hC d
def rP (P : TyP) (D : DP) : Prop := P.2.2.2.2.2.2.2.2.1 = dN D ∧ (∀ i, 0 ≤ i → i < dN D → P.2.1 i = dW D i ∧ P.2.2.1 i = dO D i) ∧ (∀ i, 0 ≤ i → i < dN D → (-1 ≤ P.2.2.2.2.1 i ∧ P.2.2.2.2.1 i < dN D) ∧ ∀ k, i < k → k < dN D → P.2.2.2.2.1 i < k → ¬ dB D i k) ∧ (∀ i k, 0 ≤ i → i < k → k < dN D → (¬ bitI (P.2.2.2.1 i) k = 0 ↔ dB D i k)) ∧ (P.2.2.2.2.2.2.2.2.2.1 = 0 ∨ P.2.2.2.2.2.2.2.2.2.1 = 1) ∧ (∀ i r p, 0 ≤ i → i < dN D → 0 ≤ r → r < 6 → cif (¬ P.2.2.2.2.2.1 i = r ∨ ¬ P.2.2.2.2.2.2.1 i = p) P.2.2.2.2.2.2.2.2.2.1 0 = dM D i r p) ∧ (∀ i, 0 ≤ i → i ≤ dN D → P.2.2.2.2.2.2.2.1 i = nob D (dN D - i).toNat) ∧ (P.2.2.2.2.2.2.2.2.2.2.1 = dF D ∧ P.2.2.2.2.2.2.2.2.2.2.2.1 = 64 * dE D) ∧ (∀ i, 0 ≤ i → i < dN D → inR (P.2.2.2.2.2.1 i) ∧ inR (P.2.2.2.2.2.2.1 i)) ∧ (∀ i, ¬ dB D (-1) i)
def tR (D : DP) (r : Int) (x : TyBn) (j : Int) : Prop := ∀ i u, j ≤ i → i ≤ dN D → 0 ≤ u → u ≤ x.2.1 → x.2.2.2.2.1 (i * (x.2.1 + 1) + u) = VV D (dN D - i).toNat (fun _ => False) r u
def tA (D : DP) (r : Int) (x : TyBn) (j : Int) : Prop := ∀ i p, j ≤ i → i < dN D → 0 ≤ p → p + dW D i ≤ x.2.1 → x.2.2.2.2.2.1 (i * (x.2.1 + 1) + p) = VV D (dN D - (i + 1)).toNat (dB D i) r (p + dW D i)
def tH (D : DP) (r : Int) (x : TyBn) (j : Int) : Prop := ∀ i, j ≤ i → i < dN D → x.2.2.2.2.2.2 i = VV D (dN D - i).toNat (fun _ => False) (r + 1) 0
theorem slot_b {i u w n : Int} (hw : 0 ≤ w) (hi : 0 ≤ i ∧ i < n) (hu : 0 ≤ u ∧ u ≤ w) : 0 ≤ i * (w + 1) + u ∧ i * (w + 1) + u < n * (w + 1) := by
  have h1 : 0 ≤ i * (w + 1) := Int.mul_nonneg hi.1 (by omega)
  have h2 : (i + 1) * (w + 1) ≤ n * (w + 1) := Int.mul_le_mul_of_nonneg_right (by omega) (by omega)
  rw [Int.add_mul] at h2
  omega
theorem slot_inj {i u i' u' w : Int} (hu : 0 ≤ u ∧ u ≤ w) (hu' : 0 ≤ u' ∧ u' ≤ w) (h : i * (w + 1) + u = i' * (w + 1) + u') : i = i' ∧ u = u' := by
  have key : ∀ {i u i' u' : Int}, 0 ≤ u ∧ u ≤ w → 0 ≤ u' ∧ u' ≤ w → i * (w + 1) + u = i' * (w + 1) + u' → ¬ i < i' := by
    intro i u i' u' hu hu' h hlt
    have h2 : (i + 1) * (w + 1) ≤ i' * (w + 1) := Int.mul_le_mul_of_nonneg_right (by omega) (by omega)
    rw [Int.add_mul] at h2
    omega
  have h1 := key hu hu' h
  have h2 := key hu' hu h.symm
  have e : i = i' := by omega
  subst e
  exact ⟨rfl, by omega⟩
theorem c_isElsewhere {X : AX} (d : Nat) (sb ss : Nat) (T : TyT) (G : TyG) (L : TyL) (O : TyO) (R : TyR) (P : TyP) (C : TyC) (B D : TyB) (S N : TyS) (t : AH) (i row p : Int) (hi : 0 ≤ i ∧ i < 32) (hr : inR row) (hp : inR p) (h1 : inR (P.2.2.2.2.2.1 i)) (h2 : inR (P.2.2.2.2.2.2.1 i)) : AF X (d + 2) 0 0 32 [rf 17, iv i, iv row, iv p] (CH sb ss T G L O R P C B D S N t) (some (iv (bI (¬ P.2.2.2.2.2.1 i = row ∨ ¬ P.2.2.2.2.2.2.1 i = p)))) (CH sb ss T G L O R P C B D S N t) := by
  unfold inR at hr hp h1 h2
  refine aw_tree (I0_ok X _) [(true, 49)] [] rfl ?_
  repeat' (first | refine And.intro ?_ ?_ | (refine aImp_e0 ?_; intro _) | (refine aImp_n0 ?_; intro _) | (refine aImp_i ?_; intro _))
  all_goals (try (first | omega | exact bI_01 _ | exact bI_lo _ | exact bI_hi _ | exact bI_hi' _ | exact trivial | exact Or.inl rfl | exact Or.inr rfl | (exfalso; omega)))
  all_goals first | rfl | rw [bI_f (by omega)] | rw [bI_t (by omega)]
theorem c_pBarred {X : AX} (d : Nat) (sb ss : Nat) (T : TyT) (G : TyG) (L : TyL) (O : TyO) (R : TyR) (P : TyP) (C : TyC) (B D : TyB) (S N : TyS) (t : AH) (l i : Int) (V : DP) (hP : rP P V) (hl : -1 ≤ l ∧ l < i) (hi : i < dN V) (hn : dN V ≤ 32) : AF X (d + 2) 0 0 33 [rf 17, iv l, iv i] (CH sb ss T G L O R P C B D S N t) (some (iv (bI (dB V l i)))) (CH sb ss T G L O R P C B D S N t) := by
  obtain ⟨p1, p2, p3, p4, p5, p6, p7, p8, p9, p10⟩ := hP
  by_cases h0 : l = -1
  · have : bI (dB V l i) = 0 := bI_f (by rw [h0]; exact p10 i)
    rw [this]
    refine aw_tree (I0_ok X _) [(true, 49)] [] rfl ?_
    repeat' (first | refine And.intro ?_ ?_ | (refine aImp_e0 ?_; intro _) | (refine aImp_n0 ?_; intro _) | (refine aImp_i ?_; intro _))
    all_goals (try (first | omega | exact bI_01 _ | exact bI_lo _ | exact bI_hi _ | exact bI_hi' _ | exact trivial | exact Or.inl rfl | exact Or.inr rfl | (exfalso; omega)))
    all_goals rfl
  · have hb := p4 l i (by omega) (by omega) (by omega)
    have h01 := bitI_01 (x := P.2.2.2.1 l) (j := i) (by omega)
    have hE : bAnd (bUshr (P.2.2.2.1 l) i) 1 = bitI (P.2.2.2.1 l) i := rfl
    refine aw_tree (I0_ok X _) [(true, 49)] [] rfl ?_
    rw [hE]
    repeat' (first | refine And.intro ?_ ?_ | (refine aImp_e0 ?_; intro _) | (refine aImp_n0 ?_; intro _) | (refine aImp_i ?_; intro _))
    all_goals (try (first | omega | exact bI_01 _ | exact bI_lo _ | exact bI_hi _ | exact bI_hi' _ | exact trivial | exact Or.inl rfl | exact Or.inr rfl | (exfalso; omega)))
    · next hz =>
      rw [bI_f (fun k => hb.mpr k hz)]
    · rfl
    · next hz =>
      rw [bI_t (hb.mp hz)]
    · rfl
theorem c_sitPrice0 {X : AX} (d : Nat) (sb ss : Nat) (T : TyT) (G : TyG) (L : TyL) (O : TyO) (R : TyR) (P : TyP) (C : TyC) (B D : TyB) (S N : TyS) (bm : AC24) (bt : List TyBn) (x : TyBn) (V : DP) (i p : Int) (hV : kD V) (hP : rP P V) (hx : x.1 = 0 ∧ (0 ≤ x.2.1 ∧ x.2.1 ≤ 40)) (hi : 0 ≤ i ∧ i < dN V) (hp : 0 ≤ p ∧ p + dW V i ≤ x.2.1) (hA : x.2.2.2.2.2.1 (i * (x.2.1 + 1) + p) = VV V (dN V - (i + 1)).toNat (dB V i) 0 (p + dW V i)) :
    AF X (d + 3) 0 0 31 [rf 17, rf 73, iv i, iv p] (CH sb ss T G L O R P C B D S N (MV bm (BH 73 (x :: bt)))) (some (iv (VV V (dN V - (i + 1)).toNat (dB V i) 0 (p + dW V i) + dM V i 0 p))) (CH sb ss T G L O R P C B D S N (MV bm (BH 73 (x :: bt)))) := by
  have hP' := hP
  obtain ⟨p1, p2, p3, p4, p5, p6, p7, p8, p9, p10⟩ := hP'
  have hn := hV.1
  have hw := hV.2.2.1 i hi.1 hi.2
  have hs := slot_b (n := 32) (w := x.2.1) (i := i) (u := p) (by omega) (by omega) (by omega)
  have hm : cif (¬ P.2.2.2.2.2.1 i = x.1 ∨ ¬ P.2.2.2.2.2.2.1 i = p) P.2.2.2.2.2.2.2.2.2.1 0 = dM V i 0 p := by rw [hx.1]; exact p6 i 0 p hi.1 hi.2 (by omega) (by omega)
  have h9 := p9 i hi.1 hi.2
  rw [← hm, ← hA]
  refine aw_tree (I1_ok X _) [(true, 49), (false, 24), (true, 4)] [] rfl ?_
  dsimp only
  repeat' (first | refine And.intro ?_ ?_ | (refine aImp_e0 ?_; intro _) | (refine aImp_n0 ?_; intro _) | (refine aImp_i ?_; intro _))
  all_goals (try (first | omega | exact bI_01 _ | exact bI_lo _ | exact bI_hi _ | exact bI_hi' _ | exact trivial | exact Or.inl rfl | exact Or.inr rfl | (exfalso; omega)))
  refine aw_cf0 (c_isElsewhere (d + 0) sb ss T G L O R P C B D S N (MV bm (BH 73 (x :: bt))) i x.1 p (by omega) (by unfold inR; omega) (by unfold inR; omega) h9.1 h9.2) rfl ?_
  refine aw_tree (I1_ok X _) [(true, 49), (false, 24), (true, 4)] [] rfl ?_
  dsimp only
  repeat' (first | refine And.intro ?_ ?_ | (refine aImp_e0 ?_; intro _) | (refine aImp_n0 ?_; intro _) | (refine aImp_i ?_; intro _))
  all_goals (try (first | omega | exact bI_01 _ | exact bI_lo _ | exact bI_hi _ | exact bI_hi' _ | exact trivial | exact Or.inl rfl | exact Or.inr rfl | (exfalso; omega)))
  · next hz => rw [cif_f hz, Int.add_zero]
  · rfl
  · next hz => rw [cif_t hz]
  · rfl
theorem c_sitPrice1 {X : AX} (d : Nat) (sb ss : Nat) (T : TyT) (G : TyG) (L : TyL) (O : TyO) (R : TyR) (P : TyP) (C : TyC) (B D : TyB) (S N : TyS) (bm : AC24) (b0 : TyBn) (bt : List TyBn) (x : TyBn) (V : DP) (i p : Int) (hV : kD V) (hP : rP P V) (hx : x.1 = 1 ∧ (0 ≤ x.2.1 ∧ x.2.1 ≤ 40)) (hi : 0 ≤ i ∧ i < dN V) (hp : 0 ≤ p ∧ p + dW V i ≤ x.2.1) (hA : x.2.2.2.2.2.1 (i * (x.2.1 + 1) + p) = VV V (dN V - (i + 1)).toNat (dB V i) 1 (p + dW V i)) :
    AF X (d + 3) 0 0 31 [rf 17, rf 77, iv i, iv p] (CH sb ss T G L O R P C B D S N (MV bm (BH 73 (b0 :: x :: bt)))) (some (iv (VV V (dN V - (i + 1)).toNat (dB V i) 1 (p + dW V i) + dM V i 1 p))) (CH sb ss T G L O R P C B D S N (MV bm (BH 73 (b0 :: x :: bt)))) := by
  have hP' := hP
  obtain ⟨p1, p2, p3, p4, p5, p6, p7, p8, p9, p10⟩ := hP'
  have hn := hV.1
  have hw := hV.2.2.1 i hi.1 hi.2
  have hs := slot_b (n := 32) (w := x.2.1) (i := i) (u := p) (by omega) (by omega) (by omega)
  have hm : cif (¬ P.2.2.2.2.2.1 i = x.1 ∨ ¬ P.2.2.2.2.2.2.1 i = p) P.2.2.2.2.2.2.2.2.2.1 0 = dM V i 1 p := by rw [hx.1]; exact p6 i 1 p hi.1 hi.2 (by omega) (by omega)
  have h9 := p9 i hi.1 hi.2
  rw [← hm, ← hA]
  refine aw_tree (I1_ok X _) [(true, 49), (false, 24), (true, 8)] [] rfl ?_
  dsimp only
  repeat' (first | refine And.intro ?_ ?_ | (refine aImp_e0 ?_; intro _) | (refine aImp_n0 ?_; intro _) | (refine aImp_i ?_; intro _))
  all_goals (try (first | omega | exact bI_01 _ | exact bI_lo _ | exact bI_hi _ | exact bI_hi' _ | exact trivial | exact Or.inl rfl | exact Or.inr rfl | (exfalso; omega)))
  refine aw_cf0 (c_isElsewhere (d + 0) sb ss T G L O R P C B D S N (MV bm (BH 73 (b0 :: x :: bt))) i x.1 p (by omega) (by unfold inR; omega) (by unfold inR; omega) h9.1 h9.2) rfl ?_
  refine aw_tree (I1_ok X _) [(true, 49), (false, 24), (true, 8)] [] rfl ?_
  dsimp only
  repeat' (first | refine And.intro ?_ ?_ | (refine aImp_e0 ?_; intro _) | (refine aImp_n0 ?_; intro _) | (refine aImp_i ?_; intro _))
  all_goals (try (first | omega | exact bI_01 _ | exact bI_lo _ | exact bI_hi _ | exact bI_hi' _ | exact trivial | exact Or.inl rfl | exact Or.inr rfl | (exfalso; omega)))
  · next hz => rw [cif_f hz, Int.add_zero]
  · rfl
  · next hz => rw [cif_t hz]
  · rfl
theorem c_sitPrice2 {X : AX} (d : Nat) (sb ss : Nat) (T : TyT) (G : TyG) (L : TyL) (O : TyO) (R : TyR) (P : TyP) (C : TyC) (B D : TyB) (S N : TyS) (bm : AC24) (b0 b1 : TyBn) (bt : List TyBn) (x : TyBn) (V : DP) (i p : Int) (hV : kD V) (hP : rP P V) (hx : x.1 = 2 ∧ (0 ≤ x.2.1 ∧ x.2.1 ≤ 40)) (hi : 0 ≤ i ∧ i < dN V) (hp : 0 ≤ p ∧ p + dW V i ≤ x.2.1) (hA : x.2.2.2.2.2.1 (i * (x.2.1 + 1) + p) = VV V (dN V - (i + 1)).toNat (dB V i) 2 (p + dW V i)) :
    AF X (d + 3) 0 0 31 [rf 17, rf 81, iv i, iv p] (CH sb ss T G L O R P C B D S N (MV bm (BH 73 (b0 :: b1 :: x :: bt)))) (some (iv (VV V (dN V - (i + 1)).toNat (dB V i) 2 (p + dW V i) + dM V i 2 p))) (CH sb ss T G L O R P C B D S N (MV bm (BH 73 (b0 :: b1 :: x :: bt)))) := by
  have hP' := hP
  obtain ⟨p1, p2, p3, p4, p5, p6, p7, p8, p9, p10⟩ := hP'
  have hn := hV.1
  have hw := hV.2.2.1 i hi.1 hi.2
  have hs := slot_b (n := 32) (w := x.2.1) (i := i) (u := p) (by omega) (by omega) (by omega)
  have hm : cif (¬ P.2.2.2.2.2.1 i = x.1 ∨ ¬ P.2.2.2.2.2.2.1 i = p) P.2.2.2.2.2.2.2.2.2.1 0 = dM V i 2 p := by rw [hx.1]; exact p6 i 2 p hi.1 hi.2 (by omega) (by omega)
  have h9 := p9 i hi.1 hi.2
  rw [← hm, ← hA]
  refine aw_tree (I1_ok X _) [(true, 49), (false, 24), (true, 12)] [] rfl ?_
  dsimp only
  repeat' (first | refine And.intro ?_ ?_ | (refine aImp_e0 ?_; intro _) | (refine aImp_n0 ?_; intro _) | (refine aImp_i ?_; intro _))
  all_goals (try (first | omega | exact bI_01 _ | exact bI_lo _ | exact bI_hi _ | exact bI_hi' _ | exact trivial | exact Or.inl rfl | exact Or.inr rfl | (exfalso; omega)))
  refine aw_cf0 (c_isElsewhere (d + 0) sb ss T G L O R P C B D S N (MV bm (BH 73 (b0 :: b1 :: x :: bt))) i x.1 p (by omega) (by unfold inR; omega) (by unfold inR; omega) h9.1 h9.2) rfl ?_
  refine aw_tree (I1_ok X _) [(true, 49), (false, 24), (true, 12)] [] rfl ?_
  dsimp only
  repeat' (first | refine And.intro ?_ ?_ | (refine aImp_e0 ?_; intro _) | (refine aImp_n0 ?_; intro _) | (refine aImp_i ?_; intro _))
  all_goals (try (first | omega | exact bI_01 _ | exact bI_lo _ | exact bI_hi _ | exact bI_hi' _ | exact trivial | exact Or.inl rfl | exact Or.inr rfl | (exfalso; omega)))
  · next hz => rw [cif_f hz, Int.add_zero]
  · rfl
  · next hz => rw [cif_t hz]
  · rfl
theorem c_sitPrice3 {X : AX} (d : Nat) (sb ss : Nat) (T : TyT) (G : TyG) (L : TyL) (O : TyO) (R : TyR) (P : TyP) (C : TyC) (B D : TyB) (S N : TyS) (bm : AC24) (b0 b1 b2 : TyBn) (bt : List TyBn) (x : TyBn) (V : DP) (i p : Int) (hV : kD V) (hP : rP P V) (hx : x.1 = 3 ∧ (0 ≤ x.2.1 ∧ x.2.1 ≤ 40)) (hi : 0 ≤ i ∧ i < dN V) (hp : 0 ≤ p ∧ p + dW V i ≤ x.2.1) (hA : x.2.2.2.2.2.1 (i * (x.2.1 + 1) + p) = VV V (dN V - (i + 1)).toNat (dB V i) 3 (p + dW V i)) :
    AF X (d + 3) 0 0 31 [rf 17, rf 85, iv i, iv p] (CH sb ss T G L O R P C B D S N (MV bm (BH 73 (b0 :: b1 :: b2 :: x :: bt)))) (some (iv (VV V (dN V - (i + 1)).toNat (dB V i) 3 (p + dW V i) + dM V i 3 p))) (CH sb ss T G L O R P C B D S N (MV bm (BH 73 (b0 :: b1 :: b2 :: x :: bt)))) := by
  have hP' := hP
  obtain ⟨p1, p2, p3, p4, p5, p6, p7, p8, p9, p10⟩ := hP'
  have hn := hV.1
  have hw := hV.2.2.1 i hi.1 hi.2
  have hs := slot_b (n := 32) (w := x.2.1) (i := i) (u := p) (by omega) (by omega) (by omega)
  have hm : cif (¬ P.2.2.2.2.2.1 i = x.1 ∨ ¬ P.2.2.2.2.2.2.1 i = p) P.2.2.2.2.2.2.2.2.2.1 0 = dM V i 3 p := by rw [hx.1]; exact p6 i 3 p hi.1 hi.2 (by omega) (by omega)
  have h9 := p9 i hi.1 hi.2
  rw [← hm, ← hA]
  refine aw_tree (I1_ok X _) [(true, 49), (false, 24), (true, 16)] [] rfl ?_
  dsimp only
  repeat' (first | refine And.intro ?_ ?_ | (refine aImp_e0 ?_; intro _) | (refine aImp_n0 ?_; intro _) | (refine aImp_i ?_; intro _))
  all_goals (try (first | omega | exact bI_01 _ | exact bI_lo _ | exact bI_hi _ | exact bI_hi' _ | exact trivial | exact Or.inl rfl | exact Or.inr rfl | (exfalso; omega)))
  refine aw_cf0 (c_isElsewhere (d + 0) sb ss T G L O R P C B D S N (MV bm (BH 73 (b0 :: b1 :: b2 :: x :: bt))) i x.1 p (by omega) (by unfold inR; omega) (by unfold inR; omega) h9.1 h9.2) rfl ?_
  refine aw_tree (I1_ok X _) [(true, 49), (false, 24), (true, 16)] [] rfl ?_
  dsimp only
  repeat' (first | refine And.intro ?_ ?_ | (refine aImp_e0 ?_; intro _) | (refine aImp_n0 ?_; intro _) | (refine aImp_i ?_; intro _))
  all_goals (try (first | omega | exact bI_01 _ | exact bI_lo _ | exact bI_hi _ | exact bI_hi' _ | exact trivial | exact Or.inl rfl | exact Or.inr rfl | (exfalso; omega)))
  · next hz => rw [cif_f hz, Int.add_zero]
  · rfl
  · next hz => rw [cif_t hz]
  · rfl
theorem c_sitPrice4 {X : AX} (d : Nat) (sb ss : Nat) (T : TyT) (G : TyG) (L : TyL) (O : TyO) (R : TyR) (P : TyP) (C : TyC) (B D : TyB) (S N : TyS) (bm : AC24) (b0 b1 b2 b3 : TyBn) (bt : List TyBn) (x : TyBn) (V : DP) (i p : Int) (hV : kD V) (hP : rP P V) (hx : x.1 = 4 ∧ (0 ≤ x.2.1 ∧ x.2.1 ≤ 40)) (hi : 0 ≤ i ∧ i < dN V) (hp : 0 ≤ p ∧ p + dW V i ≤ x.2.1) (hA : x.2.2.2.2.2.1 (i * (x.2.1 + 1) + p) = VV V (dN V - (i + 1)).toNat (dB V i) 4 (p + dW V i)) :
    AF X (d + 3) 0 0 31 [rf 17, rf 89, iv i, iv p] (CH sb ss T G L O R P C B D S N (MV bm (BH 73 (b0 :: b1 :: b2 :: b3 :: x :: bt)))) (some (iv (VV V (dN V - (i + 1)).toNat (dB V i) 4 (p + dW V i) + dM V i 4 p))) (CH sb ss T G L O R P C B D S N (MV bm (BH 73 (b0 :: b1 :: b2 :: b3 :: x :: bt)))) := by
  have hP' := hP
  obtain ⟨p1, p2, p3, p4, p5, p6, p7, p8, p9, p10⟩ := hP'
  have hn := hV.1
  have hw := hV.2.2.1 i hi.1 hi.2
  have hs := slot_b (n := 32) (w := x.2.1) (i := i) (u := p) (by omega) (by omega) (by omega)
  have hm : cif (¬ P.2.2.2.2.2.1 i = x.1 ∨ ¬ P.2.2.2.2.2.2.1 i = p) P.2.2.2.2.2.2.2.2.2.1 0 = dM V i 4 p := by rw [hx.1]; exact p6 i 4 p hi.1 hi.2 (by omega) (by omega)
  have h9 := p9 i hi.1 hi.2
  rw [← hm, ← hA]
  refine aw_tree (I1_ok X _) [(true, 49), (false, 24), (true, 20)] [] rfl ?_
  dsimp only
  repeat' (first | refine And.intro ?_ ?_ | (refine aImp_e0 ?_; intro _) | (refine aImp_n0 ?_; intro _) | (refine aImp_i ?_; intro _))
  all_goals (try (first | omega | exact bI_01 _ | exact bI_lo _ | exact bI_hi _ | exact bI_hi' _ | exact trivial | exact Or.inl rfl | exact Or.inr rfl | (exfalso; omega)))
  refine aw_cf0 (c_isElsewhere (d + 0) sb ss T G L O R P C B D S N (MV bm (BH 73 (b0 :: b1 :: b2 :: b3 :: x :: bt))) i x.1 p (by omega) (by unfold inR; omega) (by unfold inR; omega) h9.1 h9.2) rfl ?_
  refine aw_tree (I1_ok X _) [(true, 49), (false, 24), (true, 20)] [] rfl ?_
  dsimp only
  repeat' (first | refine And.intro ?_ ?_ | (refine aImp_e0 ?_; intro _) | (refine aImp_n0 ?_; intro _) | (refine aImp_i ?_; intro _))
  all_goals (try (first | omega | exact bI_01 _ | exact bI_lo _ | exact bI_hi _ | exact bI_hi' _ | exact trivial | exact Or.inl rfl | exact Or.inr rfl | (exfalso; omega)))
  · next hz => rw [cif_f hz, Int.add_zero]
  · rfl
  · next hz => rw [cif_t hz]
  · rfl
theorem c_sitPrice5 {X : AX} (d : Nat) (sb ss : Nat) (T : TyT) (G : TyG) (L : TyL) (O : TyO) (R : TyR) (P : TyP) (C : TyC) (B D : TyB) (S N : TyS) (bm : AC24) (b0 b1 b2 b3 b4 : TyBn) (bt : List TyBn) (x : TyBn) (V : DP) (i p : Int) (hV : kD V) (hP : rP P V) (hx : x.1 = 5 ∧ (0 ≤ x.2.1 ∧ x.2.1 ≤ 40)) (hi : 0 ≤ i ∧ i < dN V) (hp : 0 ≤ p ∧ p + dW V i ≤ x.2.1) (hA : x.2.2.2.2.2.1 (i * (x.2.1 + 1) + p) = VV V (dN V - (i + 1)).toNat (dB V i) 5 (p + dW V i)) :
    AF X (d + 3) 0 0 31 [rf 17, rf 93, iv i, iv p] (CH sb ss T G L O R P C B D S N (MV bm (BH 73 (b0 :: b1 :: b2 :: b3 :: b4 :: x :: bt)))) (some (iv (VV V (dN V - (i + 1)).toNat (dB V i) 5 (p + dW V i) + dM V i 5 p))) (CH sb ss T G L O R P C B D S N (MV bm (BH 73 (b0 :: b1 :: b2 :: b3 :: b4 :: x :: bt)))) := by
  have hP' := hP
  obtain ⟨p1, p2, p3, p4, p5, p6, p7, p8, p9, p10⟩ := hP'
  have hn := hV.1
  have hw := hV.2.2.1 i hi.1 hi.2
  have hs := slot_b (n := 32) (w := x.2.1) (i := i) (u := p) (by omega) (by omega) (by omega)
  have hm : cif (¬ P.2.2.2.2.2.1 i = x.1 ∨ ¬ P.2.2.2.2.2.2.1 i = p) P.2.2.2.2.2.2.2.2.2.1 0 = dM V i 5 p := by rw [hx.1]; exact p6 i 5 p hi.1 hi.2 (by omega) (by omega)
  have h9 := p9 i hi.1 hi.2
  rw [← hm, ← hA]
  refine aw_tree (I1_ok X _) [(true, 49), (false, 24), (true, 24)] [] rfl ?_
  dsimp only
  repeat' (first | refine And.intro ?_ ?_ | (refine aImp_e0 ?_; intro _) | (refine aImp_n0 ?_; intro _) | (refine aImp_i ?_; intro _))
  all_goals (try (first | omega | exact bI_01 _ | exact bI_lo _ | exact bI_hi _ | exact bI_hi' _ | exact trivial | exact Or.inl rfl | exact Or.inr rfl | (exfalso; omega)))
  refine aw_cf0 (c_isElsewhere (d + 0) sb ss T G L O R P C B D S N (MV bm (BH 73 (b0 :: b1 :: b2 :: b3 :: b4 :: x :: bt))) i x.1 p (by omega) (by unfold inR; omega) (by unfold inR; omega) h9.1 h9.2) rfl ?_
  refine aw_tree (I1_ok X _) [(true, 49), (false, 24), (true, 24)] [] rfl ?_
  dsimp only
  repeat' (first | refine And.intro ?_ ?_ | (refine aImp_e0 ?_; intro _) | (refine aImp_n0 ?_; intro _) | (refine aImp_i ?_; intro _))
  all_goals (try (first | omega | exact bI_01 _ | exact bI_lo _ | exact bI_hi _ | exact bI_hi' _ | exact trivial | exact Or.inl rfl | exact Or.inr rfl | (exfalso; omega)))
  · next hz => rw [cif_f hz, Int.add_zero]
  · rfl
  · next hz => rw [cif_t hz]
  · rfl

theorem rcA_congr {V : DP} {o o' f : FN} : ∀ (i : Nat), (∀ j : Nat, j < i → o j = o' j) → rcA V o i f = rcA V o' i f := by
  intro i
  induction i with
  | zero => intro _; rfl
  | succ i ih => intro h; rw [rcA, rcA, ih (fun j hj => h j (by omega)), h i (by omega)]
theorem poA_congr {V : DP} {o o' f : FN} : ∀ (i : Nat), (∀ j : Nat, j < i → o j = o' j) → poA V o i f = poA V o' i f := by
  intro i
  induction i with
  | zero => intro _; rfl
  | succ i ih => intro h; rw [poA, poA, ih (fun j hj => h j (by omega)), h i (by omega)]
theorem lnA_congr {V : DP} {o o' : FN} {q : FN × Int} : ∀ (i : Nat), (∀ j : Nat, j < i → o j = o' j) → lnA V o i q = lnA V o' i q := by
  intro i
  induction i with
  | zero => intro _; rfl
  | succ i ih => intro h; rw [lnA, lnA, ih (fun j hj => h j (by omega)), h i (by omega)]
theorem rcA_at {V : DP} {o f : FN} {n : Nat} (hinj : ∀ a b : Nat, a < n → b < n → o a = o b → a = b) : ∀ (i : Nat), i ≤ n → ∀ j : Nat, j < i → rcA V o i f (o j) = cif (roV V j = 6) (-1) (roV V j) := by
  intro i
  induction i with
  | zero => intro _ j hj; omega
  | succ i ih =>
    intro hi j hj
    rw [rcA]
    by_cases e : j = i
    · rw [e, aUp_s]
    · rw [aUp_n _ _ (fun q => e (hinj j i (by omega) (by omega) q))]; exact ih (by omega) j (by omega)
theorem roA_at {V : DP} {o f : FN} {n : Nat} (hinj : ∀ a b : Nat, a < n → b < n → o a = o b → a = b) : ∀ (i : Nat), i ≤ n → ∀ j : Nat, j < i → roA V o i f (o j) = roV V j := by
  intro i
  induction i with
  | zero => intro _ j hj; omega
  | succ i ih =>
    intro hi j hj
    rw [roA]
    by_cases e : j = i
    · rw [e, aUp_s]
    · rw [aUp_n _ _ (fun q => e (hinj j i (by omega) (by omega) q))]; exact ih (by omega) j (by omega)
theorem poA_at {V : DP} {o f : FN} {n : Nat} (hinj : ∀ a b : Nat, a < n → b < n → o a = o b → a = b) : ∀ (i : Nat), i ≤ n → ∀ j : Nat, j < i → poA V o i f (o j) = cif (roV V j = 6) (f (o j)) (plV V j) := by
  have key : ∀ (i : Nat), i ≤ n → ∀ j : Nat, j < n → i ≤ j → poA V o i f (o j) = f (o j) := by
    intro i
    induction i with
    | zero => intro _ j _ _; rfl
    | succ i ih =>
      intro hi j hj hij
      rw [poA]
      by_cases h : roV V i = 6
      · rw [cif_t h]; exact ih (by omega) j hj (by omega)
      · rw [cif_f h, aUp_n _ _ (fun q => by have := hinj j i hj (by omega) q; omega)]; exact ih (by omega) j hj (by omega)
  intro i
  induction i with
  | zero => intro _ j hj; omega
  | succ i ih =>
    intro hi j hj
    rw [poA]
    by_cases e : j = i
    · rw [e]
      by_cases h : roV V i = 6
      · rw [cif_t h, cif_t h]; exact key i (by omega) i (by omega) (by omega)
      · rw [cif_f h, cif_f h, aUp_s]
    · have hne : o j ≠ o i := fun q => e (hinj j i (by omega) (by omega) q)
      by_cases h : roV V i = 6
      · rw [cif_t h]; exact ih (by omega) j (by omega)
      · rw [cif_f h, aUp_n _ _ hne]; exact ih (by omega) j (by omega)
noncomputable def eV (V : DP) (o rw' pw : FN) (i : Int) : Int := mvM rw' pw 1 (o i) (roV V i.toNat) (plV V i.toNat)
theorem pr40 {V : DP} (h : ∀ i, ¬ dB V (-1) i) : pr4 V 0 (-1) 0 0 = VV V (dN V - 0).toNat (fun _ => False) 0 0 := by
  unfold pr4
  rw [cif_t (show (-1 : Int) < 0 from by omega)]
  exact VV_congr _ _ _ _ _ (fun j _ _ => ⟨fun k => h j k, fun k => k.elim⟩)
set_option maxRecDepth 100000 in
theorem c_plan0 {X : AX} (d : Nat) (sb ss : Nat) (T : TyT) (G : TyG) (L : TyL) (O : TyO) (R : TyR) (P : TyP) (C : TyC) (B D : TyB) (S N : TyS) (bm : AC24) (β : List TyBn) (mG : TyMG) (mR : TyMR) (o rw' pw : FN) (n an : Int) (V : DP) {Q : AQ} (hVd : V = DM mG mR o n rw' pw an) (hV : kD V) (hP : rPj P V o 0) (hPa : rPa P o rw' pw n 0) (hL : L.2.1 = dR V ∧ hlB L) (hLf : L.2.2.2.1 = dF V ∧ L.2.2.2.2 = dE V) (hb : okB V β) (hn : 0 ≤ n ∧ n ≤ 32) (ho : ∀ i, 0 ≤ i → i < n → 0 ≤ o i ∧ o i < 32) (hinj : ∀ a b : Nat, a < n.toNat → b < n.toNat → o a = o b → a = b) (hrw : ∀ g, 0 ≤ g → g < 32 → 0 ≤ rw' g)
    (hQ : ∀ (β' : List TyBn) (P' : TyP), okB V β' → hdB β' = hdB β → Q (some (iv (Int.tdiv (pr4 V 0 (-1) 0 0) 64))) (CH sb ss T G L O R P' C B D (rcA V o n.toNat (fil S.1 (-2) 32), poA V o n.toNat (fil S.2.1 (-1) 32), (lnA V o n.toNat (S.2.2.1, 0)).1, (lnA V o n.toNat (S.2.2.1, 0)).2, L.2.1, smN (eV V o rw' pw) n.toNat, 1) N (MV bm (BH 73 β')))) :
    AW X (d + 8) 0 0 26 0 (aEntry 26 [rf 17, rf 12, rf 41]) [] (CH sb ss T G L O R P C B D S N (MV bm (BH 73 β))) Q := by
  have hdn : dN V = n := by rw [hVd]; rfl
  have hr6 := hV.2.2.2.2.1
  obtain ⟨q1, q2, q3, q4, q5, q6, q7, q8⟩ := hP
  have hno : ∀ i, ¬ dB V (-1) i := by
    intro i k
    rw [hVd] at k
    have : (0 : Int) ≤ -1 := k.1
    omega
  have hPf : rP (P.1, P.2.1, P.2.2.1, P.2.2.2.1, P.2.2.2.2.1, P.2.2.2.2.2.1, P.2.2.2.2.2.2.1, P.2.2.2.2.2.2.2.1, P.2.2.2.2.2.2.2.2.1, P.2.2.2.2.2.2.2.2.2.1, L.2.2.2.1, L.2.2.2.2 * 64, P.2.2.2.2.2.2.2.2.2.2.2.2.1, P.2.2.2.2.2.2.2.2.2.2.2.2.2) V :=
    ⟨q1, fun i i0 i1 => (q2 i i0 i1).2, q3, q4, q5, q6, q7, ⟨hLf.1, by have := hLf.2; show L.2.2.2.2 * 64 = 64 * dE V; omega⟩, q8, hno⟩
  have hPo : ∀ i, 0 ≤ i → i < n → P.1 i = o i := fun i i0 i1 => (q2 i i0 (by omega)).1
  have hgs : ∀ i, 0 ≤ i → i < dN V → 0 ≤ P.1 i ∧ P.1 i < 32 := fun i i0 i1 => by rw [hPo i i0 (by omega)]; exact ho i i0 (by omega)
  have hPn : ∀ j : Nat, j < (dN V).toNat → P.1 j = o j := fun j hj => hPo j (by omega) (by omega)
  refine aw_tree (I0_ok X _) [(true, 49), (false, 24)] [15] rfl ?_
  have goal := c_plan_loop (X := X) (Q := Q) d sb ss T G L O R (P.1, P.2.1, P.2.2.1, P.2.2.2.1, P.2.2.2.2.1, P.2.2.2.2.2.1, P.2.2.2.2.2.2.1, P.2.2.2.2.2.2.2.1, P.2.2.2.2.2.2.2.2.1, P.2.2.2.2.2.2.2.2.2.1, L.2.2.2.1, L.2.2.2.2 * 64, P.2.2.2.2.2.2.2.2.2.2.2.2.1, P.2.2.2.2.2.2.2.2.2.2.2.2.2) C B D S N bm V 41 (hdB β) hV hPf hL (fun β' hb' ht' hhd => ?_) (dR V).toNat β (by omega) hb (fun r b hr hx => by
    obtain ⟨hl, _⟩ := List.getElem?_eq_some_iff.mp hx
    have := hb.1
    omega) rfl
  · rw [show (((dR V).toNat : Nat) : Int) - 1 = L.2.1 - 1 from by have := hL.1; omega] at goal
    exact goal
  · -- the tables stand
    refine aw_tree (I0_ok X _) [(true, 49), (false, 24)] [] rfl ?_
    refine aw_cf0 (c_begin0 _ sb ss T G L O R _ C B D S N (MV bm (BH 73 β')) L.2.1) rfl ?_
    refine aw_tree (I0_ok X _) [(true, 49), (false, 24)] [] rfl ?_
    have hwalk : ∀ {Q1 : AQ}, (∀ u l : Int, Q1 none (CH sb ss T G L O R (pUL (P.1, P.2.1, P.2.2.1, P.2.2.2.1, P.2.2.2.2.1, P.2.2.2.2.2.1, P.2.2.2.2.2.2.1, P.2.2.2.2.2.2.2.1, P.2.2.2.2.2.2.2.2.1, P.2.2.2.2.2.2.2.2.2.1, L.2.2.2.1, L.2.2.2.2 * 64, P.2.2.2.2.2.2.2.2.2.2.2.2.1, P.2.2.2.2.2.2.2.2.2.2.2.2.2) u l) C B D (rcA V P.1 (dN V).toNat (fil S.1 (-2) 32), poA V P.1 (dN V).toNat (fil S.2.1 (-1) 32), (lnA V P.1 (dN V).toNat (S.2.2.1, 0)).1, (lnA V P.1 (dN V).toNat (S.2.2.1, 0)).2, L.2.1, S.2.2.2.2.2.1, 1) N (MV bm (BH 73 β')))) → AW X (d + 7) 0 0 34 0 (aEntry 34 [rf 17, rf 12, rf 41]) [] (CH sb ss T G L O R (P.1, P.2.1, P.2.2.1, P.2.2.2.1, P.2.2.2.2.1, P.2.2.2.2.2.1, P.2.2.2.2.2.2.1, P.2.2.2.2.2.2.2.1, P.2.2.2.2.2.2.2.2.1, P.2.2.2.2.2.2.2.2.2.1, L.2.2.2.1, L.2.2.2.2 * 64, P.2.2.2.2.2.2.2.2.2.2.2.2.1, P.2.2.2.2.2.2.2.2.2.2.2.2.2) C B D (fil S.1 (-2) 32, fil S.2.1 (-1) 32, S.2.2.1, 0, L.2.1, S.2.2.2.2.2.1, 1) N (MV bm (BH 73 β'))) Q1 := by
      intro Q1 h1
      refine aw_tree (I0_ok X _) [(true, 49), (false, 24)] [10] rfl ?_
      exact c_walk_loop0 d sb ss T G L O R (P.1, P.2.1, P.2.2.1, P.2.2.2.1, P.2.2.2.2.1, P.2.2.2.2.2.1, P.2.2.2.2.2.2.1, P.2.2.2.2.2.2.2.1, P.2.2.2.2.2.2.2.2.1, P.2.2.2.2.2.2.2.2.2.1, L.2.2.2.1, L.2.2.2.2 * 64, P.2.2.2.2.2.2.2.2.2.2.2.2.1, P.2.2.2.2.2.2.2.2.2.2.2.2.2) C B D S N bm β' V hV hPf hL hb' ht' hgs (fil S.1 (-2) 32) (fil S.2.1 (-1) 32) S.2.2.1 (L.2.1, S.2.2.2.2.2.1, 1) h1 (dN V).toNat 0 jk jk (by omega)
    refine aw_ck0 (hwalk (fun u l => ?_)) rfl
    rw [rcA_congr _ hPn, poA_congr _ hPn, lnA_congr _ hPn, hdn]
    refine aw_tree (I0_ok X _) [(true, 49), (false, 24)] [] rfl ?_
    refine aw_cf0 (c_countMoved0 _ sb ss T G L O R _ C B D (rcA V o n.toNat (fil S.1 (-2) 32), poA V o n.toNat (fil S.2.1 (-1) 32), (lnA V o n.toNat (S.2.2.1, 0)).1, (lnA V o n.toNat (S.2.2.1, 0)).2, L.2.1, S.2.2.2.2.2.1, 1) N (MV bm (BH 73 β')) n (eV V o rw' pw) hn (by rw [← hdn]; exact q1) (fun i i0 i1 => hgs i i0 (by omega)) (fun i i0 i1 => ?_) (fun i i0 i1 => ?_)) rfl ?_
    · obtain ⟨j, rfl⟩ : ∃ j : Nat, i = j := ⟨i.toNat, by omega⟩
      have hjn : j < n.toNat := by omega
      have e1 := rcA_at (V := V) (f := fil S.1 (-2) 32) hinj n.toNat (Nat.le_refl _) j hjn
      have e2 := poA_at (V := V) (f := fil S.2.1 (-1) 32) hinj n.toNat (Nat.le_refl _) j hjn
      have hoj := ho j (by omega) i1
      have hc := (cho_ok hV (l := (wst V j).1) (r := (wst V j).2.1) (p := (wst V j).2.2) (i := j) (by omega)).1
      have hch : 0 ≤ roV V j ∧ roV V j ≤ 6 := hc
      have hq8 := q8 j i0 (by omega)
      dsimp only
      rw [hPo j i0 i1, e1, e2]
      refine ⟨?_, ?_, hq8.1, hq8.2⟩
      · unfold inR
        by_cases h6 : roV V j = 6
        · rw [cif_t h6]; omega
        · rw [cif_f h6]; omega
      · unfold inR
        by_cases h6 : roV V j = 6
        · rw [cif_t h6, fil_lt 32 _ hoj.1 (by omega)]; omega
        · have hp := plV_r hV (i := j) (by omega) h6
          have hw := hV.2.2.1 j (by omega) (by omega)
          rw [cif_f h6]; omega
    · obtain ⟨j, rfl⟩ : ∃ j : Nat, i = j := ⟨i.toNat, by omega⟩
      have hjn : j < n.toNat := by omega
      have e1 := rcA_at (V := V) (f := fil S.1 (-2) 32) hinj n.toNat (Nat.le_refl _) j hjn
      have e2 := poA_at (V := V) (f := fil S.2.1 (-1) 32) hinj n.toNat (Nat.le_refl _) j hjn
      have hoj := ho j (by omega) i1
      have hc := (cho_ok hV (l := (wst V j).1) (r := (wst V j).2.1) (p := (wst V j).2.2) (i := j) (by omega)).1
      have hch : 0 ≤ roV V j ∧ roV V j ≤ 6 := hc
      have hpa := hPa j i0 i1
      dsimp only
      rw [hPo j i0 i1, e1, e2]
      unfold eV
      rw [show ((j : Int)).toNat = j from by omega]
      by_cases h6 : roV V j = 6
      · rw [cif_t h6, cif_t h6, fil_lt 32 _ hoj.1 (by omega), h6]
        exact el_eq6 (hrw _ hoj.1 hoj.2) hpa
      · rw [cif_f h6, cif_f h6]
        exact el_eq (by omega) hpa
    · refine aw_tree (I0_ok X _) [(true, 49), (false, 24)] [] rfl ?_
      have hvr := VV_r hV (dN V - 0).toNat (fun _ => False) 0 0 (by omega)
      have fin : ∀ (P' : TyP), AW X (d + 8) 0 0 26 48 [rf 17, rf 12, rf 41, iv (-1)] [iv (pr4 V 0 (-1) 0 0)] (CH sb ss T G L O R P' C B D (rcA V o n.toNat (fil S.1 (-2) 32), poA V o n.toNat (fil S.2.1 (-1) 32), (lnA V o n.toNat (S.2.2.1, 0)).1, (lnA V o n.toNat (S.2.2.1, 0)).2, L.2.1, smN (eV V o rw' pw) n.toNat, 1) N (MV bm (BH 73 β'))) Q := by
        intro P'
        have hpr := pr40 hno
        refine aw_tree (I0_ok X _) [(true, 49), (false, 24)] [] rfl ?_
        refine ⟨⟨?_, ?_, ?_, ?_⟩, hQ β' P' hb' hhd⟩
        · rw [hpr]; unfold inR; omega
        · unfold inR; omega
        · omega
        · omega
      have hpr := pr40 hno
      by_cases hz : 0 < dR V
      · have hkl : 0 < β'.length := by have := hb'.1; omega
        have hx := List.getElem?_eq_getElem hkl
        refine aw_cf0 (c_benchAt _ sb ss T G L O R (pUL (P.1, P.2.1, P.2.2.1, P.2.2.2.1, P.2.2.2.2.1, P.2.2.2.2.2.1, P.2.2.2.2.2.2.1, P.2.2.2.2.2.2.2.1, P.2.2.2.2.2.2.2.2.1, P.2.2.2.2.2.2.2.2.2.1, L.2.2.2.1, L.2.2.2.2 * 64, P.2.2.2.2.2.2.2.2.2.2.2.2.1, P.2.2.2.2.2.2.2.2.2.2.2.2.2) u l) C B D (rcA V o n.toNat (fil S.1 (-2) 32), poA V o n.toNat (fil S.2.1 (-1) 32), (lnA V o n.toNat (S.2.2.1, 0)).1, (lnA V o n.toNat (S.2.2.1, 0)).2, L.2.1, smN (eV V o rw' pw) n.toNat, 1) N (MV bm (BH 73 β')) 0 73 (by omega) (by omega) (hL.2 0 (by omega))) rfl ?_
        refine aw_tree (I0_ok X _) [(true, 49), (false, 24)] [] rfl ?_
        refine aw_cf0 (c_pfG _ sb ss T G L O R (pUL (P.1, P.2.1, P.2.2.1, P.2.2.2.1, P.2.2.2.2.1, P.2.2.2.2.2.1, P.2.2.2.2.2.2.1, P.2.2.2.2.2.2.2.1, P.2.2.2.2.2.2.2.2.1, P.2.2.2.2.2.2.2.2.2.1, L.2.2.2.1, L.2.2.2.2 * 64, P.2.2.2.2.2.2.2.2.2.2.2.2.1, P.2.2.2.2.2.2.2.2.2.2.2.2.2) u l) C B D (rcA V o n.toNat (fil S.1 (-2) 32), poA V o n.toNat (fil S.2.1 (-1) 32), (lnA V o n.toNat (S.2.2.1, 0)).1, (lnA V o n.toNat (S.2.2.1, 0)).2, L.2.1, smN (eV V o rw' pw) n.toNat, 1) N bm β' 0 _ V 0 hV hb' ht' hx (by omega)) rfl ?_
        have goal := fin (pUL (P.1, P.2.1, P.2.2.1, P.2.2.2.1, P.2.2.2.2.1, P.2.2.2.2.2.1, P.2.2.2.2.2.2.1, P.2.2.2.2.2.2.2.1, P.2.2.2.2.2.2.2.2.1, P.2.2.2.2.2.2.2.2.2.1, L.2.2.2.1, L.2.2.2.2 * 64, P.2.2.2.2.2.2.2.2.2.2.2.2.1, P.2.2.2.2.2.2.2.2.2.2.2.2.2) u l)
        rw [hpr] at goal
        exact goal
      · refine aw_cf0 (c_benchAt_no _ sb ss T G L O R (pUL (P.1, P.2.1, P.2.2.1, P.2.2.2.1, P.2.2.2.2.1, P.2.2.2.2.2.1, P.2.2.2.2.2.2.1, P.2.2.2.2.2.2.2.1, P.2.2.2.2.2.2.2.2.1, P.2.2.2.2.2.2.2.2.2.1, L.2.2.2.1, L.2.2.2.2 * 64, P.2.2.2.2.2.2.2.2.2.2.2.2.1, P.2.2.2.2.2.2.2.2.2.2.2.2.2) u l) C B D (rcA V o n.toNat (fil S.1 (-2) 32), poA V o n.toNat (fil S.2.1 (-1) 32), (lnA V o n.toNat (S.2.2.1, 0)).1, (lnA V o n.toNat (S.2.2.1, 0)).2, L.2.1, smN (eV V o rw' pw) n.toNat, 1) N (MV bm (BH 73 β')) 0 (by unfold inR; omega) (by omega) (by omega)) rfl ?_
        refine aw_tree (I0_ok X _) [(true, 49), (false, 24)] [] rfl ?_
        refine aw_cf0 (c_pfN _ sb ss T G L O R (pUL (P.1, P.2.1, P.2.2.1, P.2.2.2.1, P.2.2.2.2.1, P.2.2.2.2.2.1, P.2.2.2.2.2.2.1, P.2.2.2.2.2.2.2.1, P.2.2.2.2.2.2.2.2.1, P.2.2.2.2.2.2.2.2.2.1, L.2.2.2.1, L.2.2.2.2 * 64, P.2.2.2.2.2.2.2.2.2.2.2.2.1, P.2.2.2.2.2.2.2.2.2.2.2.2.2) u l) C B D (rcA V o n.toNat (fil S.1 (-2) 32), poA V o n.toNat (fil S.2.1 (-1) 32), (lnA V o n.toNat (S.2.2.1, 0)).1, (lnA V o n.toNat (S.2.2.1, 0)).2, L.2.1, smN (eV V o rw' pw) n.toNat, 1) N (MV bm (BH 73 β')) 0 (by omega)) rfl ?_
        have goal := fin (pUL (P.1, P.2.1, P.2.2.1, P.2.2.2.1, P.2.2.2.2.1, P.2.2.2.2.2.1, P.2.2.2.2.2.2.1, P.2.2.2.2.2.2.2.1, P.2.2.2.2.2.2.2.2.1, P.2.2.2.2.2.2.2.2.2.1, L.2.2.2.1, L.2.2.2.2 * 64, P.2.2.2.2.2.2.2.2.2.2.2.2.1, P.2.2.2.2.2.2.2.2.2.2.2.2.2) u l)
        rw [hpr, VV_norow hV _ _ _ _ (by omega) (by omega), ← q7 0 (by omega) (by omega)] at goal
        exact goal
set_option maxRecDepth 100000 in
theorem c_plan1 {X : AX} (d : Nat) (sb ss : Nat) (T : TyT) (G : TyG) (L : TyL) (O : TyO) (R : TyR) (P : TyP) (C : TyC) (B D : TyB) (S N : TyS) (bm : AC24) (β : List TyBn) (mG : TyMG) (mR : TyMR) (o rw' pw : FN) (n an : Int) (V : DP) {Q : AQ} (hVd : V = DM mG mR o n rw' pw an) (hV : kD V) (hP : rPj P V o 0) (hPa : rPa P o rw' pw n 0) (hL : L.2.1 = dR V ∧ hlB L) (hLf : L.2.2.2.1 = dF V ∧ L.2.2.2.2 = dE V) (hb : okB V β) (hn : 0 ≤ n ∧ n ≤ 32) (ho : ∀ i, 0 ≤ i → i < n → 0 ≤ o i ∧ o i < 32) (hinj : ∀ a b : Nat, a < n.toNat → b < n.toNat → o a = o b → a = b) (hrw : ∀ g, 0 ≤ g → g < 32 → 0 ≤ rw' g)
    (hQ : ∀ (β' : List TyBn) (P' : TyP), okB V β' → hdB β' = hdB β → Q (some (iv (Int.tdiv (pr4 V 0 (-1) 0 0) 64))) (CH sb ss T G L O R P' C B D S (rcA V o n.toNat (fil N.1 (-2) 32), poA V o n.toNat (fil N.2.1 (-1) 32), (lnA V o n.toNat (N.2.2.1, 0)).1, (lnA V o n.toNat (N.2.2.1, 0)).2, L.2.1, smN (eV V o rw' pw) n.toNat, 1) (MV bm (BH 73 β')))) :
    AW X (d + 8) 0 0 26 0 (aEntry 26 [rf 17, rf 12, rf 45]) [] (CH sb ss T G L O R P C B D S N (MV bm (BH 73 β))) Q := by
  have hdn : dN V = n := by rw [hVd]; rfl
  have hr6 := hV.2.2.2.2.1
  obtain ⟨q1, q2, q3, q4, q5, q6, q7, q8⟩ := hP
  have hno : ∀ i, ¬ dB V (-1) i := by
    intro i k
    rw [hVd] at k
    have : (0 : Int) ≤ -1 := k.1
    omega
  have hPf : rP (P.1, P.2.1, P.2.2.1, P.2.2.2.1, P.2.2.2.2.1, P.2.2.2.2.2.1, P.2.2.2.2.2.2.1, P.2.2.2.2.2.2.2.1, P.2.2.2.2.2.2.2.2.1, P.2.2.2.2.2.2.2.2.2.1, L.2.2.2.1, L.2.2.2.2 * 64, P.2.2.2.2.2.2.2.2.2.2.2.2.1, P.2.2.2.2.2.2.2.2.2.2.2.2.2) V :=
    ⟨q1, fun i i0 i1 => (q2 i i0 i1).2, q3, q4, q5, q6, q7, ⟨hLf.1, by have := hLf.2; show L.2.2.2.2 * 64 = 64 * dE V; omega⟩, q8, hno⟩
  have hPo : ∀ i, 0 ≤ i → i < n → P.1 i = o i := fun i i0 i1 => (q2 i i0 (by omega)).1
  have hgs : ∀ i, 0 ≤ i → i < dN V → 0 ≤ P.1 i ∧ P.1 i < 32 := fun i i0 i1 => by rw [hPo i i0 (by omega)]; exact ho i i0 (by omega)
  have hPn : ∀ j : Nat, j < (dN V).toNat → P.1 j = o j := fun j hj => hPo j (by omega) (by omega)
  refine aw_tree (I0_ok X _) [(true, 49), (false, 24)] [15] rfl ?_
  have goal := c_plan_loop (X := X) (Q := Q) d sb ss T G L O R (P.1, P.2.1, P.2.2.1, P.2.2.2.1, P.2.2.2.2.1, P.2.2.2.2.2.1, P.2.2.2.2.2.2.1, P.2.2.2.2.2.2.2.1, P.2.2.2.2.2.2.2.2.1, P.2.2.2.2.2.2.2.2.2.1, L.2.2.2.1, L.2.2.2.2 * 64, P.2.2.2.2.2.2.2.2.2.2.2.2.1, P.2.2.2.2.2.2.2.2.2.2.2.2.2) C B D S N bm V 45 (hdB β) hV hPf hL (fun β' hb' ht' hhd => ?_) (dR V).toNat β (by omega) hb (fun r b hr hx => by
    obtain ⟨hl, _⟩ := List.getElem?_eq_some_iff.mp hx
    have := hb.1
    omega) rfl
  · rw [show (((dR V).toNat : Nat) : Int) - 1 = L.2.1 - 1 from by have := hL.1; omega] at goal
    exact goal
  · -- the tables stand
    refine aw_tree (I0_ok X _) [(true, 49), (false, 24)] [] rfl ?_
    refine aw_cf0 (c_begin1 _ sb ss T G L O R _ C B D S N (MV bm (BH 73 β')) L.2.1) rfl ?_
    refine aw_tree (I0_ok X _) [(true, 49), (false, 24)] [] rfl ?_
    have hwalk : ∀ {Q1 : AQ}, (∀ u l : Int, Q1 none (CH sb ss T G L O R (pUL (P.1, P.2.1, P.2.2.1, P.2.2.2.1, P.2.2.2.2.1, P.2.2.2.2.2.1, P.2.2.2.2.2.2.1, P.2.2.2.2.2.2.2.1, P.2.2.2.2.2.2.2.2.1, P.2.2.2.2.2.2.2.2.2.1, L.2.2.2.1, L.2.2.2.2 * 64, P.2.2.2.2.2.2.2.2.2.2.2.2.1, P.2.2.2.2.2.2.2.2.2.2.2.2.2) u l) C B D S (rcA V P.1 (dN V).toNat (fil N.1 (-2) 32), poA V P.1 (dN V).toNat (fil N.2.1 (-1) 32), (lnA V P.1 (dN V).toNat (N.2.2.1, 0)).1, (lnA V P.1 (dN V).toNat (N.2.2.1, 0)).2, L.2.1, N.2.2.2.2.2.1, 1) (MV bm (BH 73 β')))) → AW X (d + 7) 0 0 34 0 (aEntry 34 [rf 17, rf 12, rf 45]) [] (CH sb ss T G L O R (P.1, P.2.1, P.2.2.1, P.2.2.2.1, P.2.2.2.2.1, P.2.2.2.2.2.1, P.2.2.2.2.2.2.1, P.2.2.2.2.2.2.2.1, P.2.2.2.2.2.2.2.2.1, P.2.2.2.2.2.2.2.2.2.1, L.2.2.2.1, L.2.2.2.2 * 64, P.2.2.2.2.2.2.2.2.2.2.2.2.1, P.2.2.2.2.2.2.2.2.2.2.2.2.2) C B D S (fil N.1 (-2) 32, fil N.2.1 (-1) 32, N.2.2.1, 0, L.2.1, N.2.2.2.2.2.1, 1) (MV bm (BH 73 β'))) Q1 := by
      intro Q1 h1
      refine aw_tree (I0_ok X _) [(true, 49), (false, 24)] [10] rfl ?_
      exact c_walk_loop1 d sb ss T G L O R (P.1, P.2.1, P.2.2.1, P.2.2.2.1, P.2.2.2.2.1, P.2.2.2.2.2.1, P.2.2.2.2.2.2.1, P.2.2.2.2.2.2.2.1, P.2.2.2.2.2.2.2.2.1, P.2.2.2.2.2.2.2.2.2.1, L.2.2.2.1, L.2.2.2.2 * 64, P.2.2.2.2.2.2.2.2.2.2.2.2.1, P.2.2.2.2.2.2.2.2.2.2.2.2.2) C B D S N bm β' V hV hPf hL hb' ht' hgs (fil N.1 (-2) 32) (fil N.2.1 (-1) 32) N.2.2.1 (L.2.1, N.2.2.2.2.2.1, 1) h1 (dN V).toNat 0 jk jk (by omega)
    refine aw_ck0 (hwalk (fun u l => ?_)) rfl
    rw [rcA_congr _ hPn, poA_congr _ hPn, lnA_congr _ hPn, hdn]
    refine aw_tree (I0_ok X _) [(true, 49), (false, 24)] [] rfl ?_
    refine aw_cf0 (c_countMoved1 _ sb ss T G L O R _ C B D S (rcA V o n.toNat (fil N.1 (-2) 32), poA V o n.toNat (fil N.2.1 (-1) 32), (lnA V o n.toNat (N.2.2.1, 0)).1, (lnA V o n.toNat (N.2.2.1, 0)).2, L.2.1, N.2.2.2.2.2.1, 1) (MV bm (BH 73 β')) n (eV V o rw' pw) hn (by rw [← hdn]; exact q1) (fun i i0 i1 => hgs i i0 (by omega)) (fun i i0 i1 => ?_) (fun i i0 i1 => ?_)) rfl ?_
    · obtain ⟨j, rfl⟩ : ∃ j : Nat, i = j := ⟨i.toNat, by omega⟩
      have hjn : j < n.toNat := by omega
      have e1 := rcA_at (V := V) (f := fil N.1 (-2) 32) hinj n.toNat (Nat.le_refl _) j hjn
      have e2 := poA_at (V := V) (f := fil N.2.1 (-1) 32) hinj n.toNat (Nat.le_refl _) j hjn
      have hoj := ho j (by omega) i1
      have hc := (cho_ok hV (l := (wst V j).1) (r := (wst V j).2.1) (p := (wst V j).2.2) (i := j) (by omega)).1
      have hch : 0 ≤ roV V j ∧ roV V j ≤ 6 := hc
      have hq8 := q8 j i0 (by omega)
      dsimp only
      rw [hPo j i0 i1, e1, e2]
      refine ⟨?_, ?_, hq8.1, hq8.2⟩
      · unfold inR
        by_cases h6 : roV V j = 6
        · rw [cif_t h6]; omega
        · rw [cif_f h6]; omega
      · unfold inR
        by_cases h6 : roV V j = 6
        · rw [cif_t h6, fil_lt 32 _ hoj.1 (by omega)]; omega
        · have hp := plV_r hV (i := j) (by omega) h6
          have hw := hV.2.2.1 j (by omega) (by omega)
          rw [cif_f h6]; omega
    · obtain ⟨j, rfl⟩ : ∃ j : Nat, i = j := ⟨i.toNat, by omega⟩
      have hjn : j < n.toNat := by omega
      have e1 := rcA_at (V := V) (f := fil N.1 (-2) 32) hinj n.toNat (Nat.le_refl _) j hjn
      have e2 := poA_at (V := V) (f := fil N.2.1 (-1) 32) hinj n.toNat (Nat.le_refl _) j hjn
      have hoj := ho j (by omega) i1
      have hc := (cho_ok hV (l := (wst V j).1) (r := (wst V j).2.1) (p := (wst V j).2.2) (i := j) (by omega)).1
      have hch : 0 ≤ roV V j ∧ roV V j ≤ 6 := hc
      have hpa := hPa j i0 i1
      dsimp only
      rw [hPo j i0 i1, e1, e2]
      unfold eV
      rw [show ((j : Int)).toNat = j from by omega]
      by_cases h6 : roV V j = 6
      · rw [cif_t h6, cif_t h6, fil_lt 32 _ hoj.1 (by omega), h6]
        exact el_eq6 (hrw _ hoj.1 hoj.2) hpa
      · rw [cif_f h6, cif_f h6]
        exact el_eq (by omega) hpa
    · refine aw_tree (I0_ok X _) [(true, 49), (false, 24)] [] rfl ?_
      have hvr := VV_r hV (dN V - 0).toNat (fun _ => False) 0 0 (by omega)
      have fin : ∀ (P' : TyP), AW X (d + 8) 0 0 26 48 [rf 17, rf 12, rf 45, iv (-1)] [iv (pr4 V 0 (-1) 0 0)] (CH sb ss T G L O R P' C B D S (rcA V o n.toNat (fil N.1 (-2) 32), poA V o n.toNat (fil N.2.1 (-1) 32), (lnA V o n.toNat (N.2.2.1, 0)).1, (lnA V o n.toNat (N.2.2.1, 0)).2, L.2.1, smN (eV V o rw' pw) n.toNat, 1) (MV bm (BH 73 β'))) Q := by
        intro P'
        have hpr := pr40 hno
        refine aw_tree (I0_ok X _) [(true, 49), (false, 24)] [] rfl ?_
        refine ⟨⟨?_, ?_, ?_, ?_⟩, hQ β' P' hb' hhd⟩
        · rw [hpr]; unfold inR; omega
        · unfold inR; omega
        · omega
        · omega
      have hpr := pr40 hno
      by_cases hz : 0 < dR V
      · have hkl : 0 < β'.length := by have := hb'.1; omega
        have hx := List.getElem?_eq_getElem hkl
        refine aw_cf0 (c_benchAt _ sb ss T G L O R (pUL (P.1, P.2.1, P.2.2.1, P.2.2.2.1, P.2.2.2.2.1, P.2.2.2.2.2.1, P.2.2.2.2.2.2.1, P.2.2.2.2.2.2.2.1, P.2.2.2.2.2.2.2.2.1, P.2.2.2.2.2.2.2.2.2.1, L.2.2.2.1, L.2.2.2.2 * 64, P.2.2.2.2.2.2.2.2.2.2.2.2.1, P.2.2.2.2.2.2.2.2.2.2.2.2.2) u l) C B D S (rcA V o n.toNat (fil N.1 (-2) 32), poA V o n.toNat (fil N.2.1 (-1) 32), (lnA V o n.toNat (N.2.2.1, 0)).1, (lnA V o n.toNat (N.2.2.1, 0)).2, L.2.1, smN (eV V o rw' pw) n.toNat, 1) (MV bm (BH 73 β')) 0 73 (by omega) (by omega) (hL.2 0 (by omega))) rfl ?_
        refine aw_tree (I0_ok X _) [(true, 49), (false, 24)] [] rfl ?_
        refine aw_cf0 (c_pfG _ sb ss T G L O R (pUL (P.1, P.2.1, P.2.2.1, P.2.2.2.1, P.2.2.2.2.1, P.2.2.2.2.2.1, P.2.2.2.2.2.2.1, P.2.2.2.2.2.2.2.1, P.2.2.2.2.2.2.2.2.1, P.2.2.2.2.2.2.2.2.2.1, L.2.2.2.1, L.2.2.2.2 * 64, P.2.2.2.2.2.2.2.2.2.2.2.2.1, P.2.2.2.2.2.2.2.2.2.2.2.2.2) u l) C B D S (rcA V o n.toNat (fil N.1 (-2) 32), poA V o n.toNat (fil N.2.1 (-1) 32), (lnA V o n.toNat (N.2.2.1, 0)).1, (lnA V o n.toNat (N.2.2.1, 0)).2, L.2.1, smN (eV V o rw' pw) n.toNat, 1) bm β' 0 _ V 0 hV hb' ht' hx (by omega)) rfl ?_
        have goal := fin (pUL (P.1, P.2.1, P.2.2.1, P.2.2.2.1, P.2.2.2.2.1, P.2.2.2.2.2.1, P.2.2.2.2.2.2.1, P.2.2.2.2.2.2.2.1, P.2.2.2.2.2.2.2.2.1, P.2.2.2.2.2.2.2.2.2.1, L.2.2.2.1, L.2.2.2.2 * 64, P.2.2.2.2.2.2.2.2.2.2.2.2.1, P.2.2.2.2.2.2.2.2.2.2.2.2.2) u l)
        rw [hpr] at goal
        exact goal
      · refine aw_cf0 (c_benchAt_no _ sb ss T G L O R (pUL (P.1, P.2.1, P.2.2.1, P.2.2.2.1, P.2.2.2.2.1, P.2.2.2.2.2.1, P.2.2.2.2.2.2.1, P.2.2.2.2.2.2.2.1, P.2.2.2.2.2.2.2.2.1, P.2.2.2.2.2.2.2.2.2.1, L.2.2.2.1, L.2.2.2.2 * 64, P.2.2.2.2.2.2.2.2.2.2.2.2.1, P.2.2.2.2.2.2.2.2.2.2.2.2.2) u l) C B D S (rcA V o n.toNat (fil N.1 (-2) 32), poA V o n.toNat (fil N.2.1 (-1) 32), (lnA V o n.toNat (N.2.2.1, 0)).1, (lnA V o n.toNat (N.2.2.1, 0)).2, L.2.1, smN (eV V o rw' pw) n.toNat, 1) (MV bm (BH 73 β')) 0 (by unfold inR; omega) (by omega) (by omega)) rfl ?_
        refine aw_tree (I0_ok X _) [(true, 49), (false, 24)] [] rfl ?_
        refine aw_cf0 (c_pfN _ sb ss T G L O R (pUL (P.1, P.2.1, P.2.2.1, P.2.2.2.1, P.2.2.2.2.1, P.2.2.2.2.2.1, P.2.2.2.2.2.2.1, P.2.2.2.2.2.2.2.1, P.2.2.2.2.2.2.2.2.1, P.2.2.2.2.2.2.2.2.2.1, L.2.2.2.1, L.2.2.2.2 * 64, P.2.2.2.2.2.2.2.2.2.2.2.2.1, P.2.2.2.2.2.2.2.2.2.2.2.2.2) u l) C B D S (rcA V o n.toNat (fil N.1 (-2) 32), poA V o n.toNat (fil N.2.1 (-1) 32), (lnA V o n.toNat (N.2.2.1, 0)).1, (lnA V o n.toNat (N.2.2.1, 0)).2, L.2.1, smN (eV V o rw' pw) n.toNat, 1) (MV bm (BH 73 β')) 0 (by omega)) rfl ?_
        have goal := fin (pUL (P.1, P.2.1, P.2.2.1, P.2.2.2.1, P.2.2.2.2.1, P.2.2.2.2.2.1, P.2.2.2.2.2.2.1, P.2.2.2.2.2.2.2.1, P.2.2.2.2.2.2.2.2.1, P.2.2.2.2.2.2.2.2.2.1, L.2.2.2.1, L.2.2.2.2 * 64, P.2.2.2.2.2.2.2.2.2.2.2.2.1, P.2.2.2.2.2.2.2.2.2.2.2.2.2) u l)
        rw [hpr, VV_norow hV _ _ _ _ (by omega) (by omega), ← q7 0 (by omega) (by omega)] at goal
        exact goal

theorem tk_r (tp : FN) (n q : Int) (htp : ∀ i, 0 ≤ tp i ∧ tp i ≤ 255) : 0 ≤ tk tp n q ∧ tk tp n q ≤ 255 := by
  have h := htp q
  rcases tk_cases tp n q with k | ⟨_, _, k⟩ | ⟨_, k0, k⟩ | ⟨_, _, k⟩
  · omega
  · omega
  · have := wl_pos (tp := tp) (n := n) (q := q) (by omega)
    have h2 := this.2
    unfold ltr at h2
    omega
  · omega
theorem c_read_bad0 {X : AX} (d : Nat) (sb ss : Nat) (T : TyT) (G : TyG) (L : TyL) (O : TyO) (due p q im r i c : Int) (P : TyP) (C : TyC) (B D : TyB) (S N : TyS) (t : AH) {Q : AQ} (hr : r = 1 ∨ r = 2) (hQ : Q (some (iv 0)) (CH sb ss T G L O (r, q, due, p, q, im) P C B D S N t)) :
    AW X (d + 9) 0 0 47 36 [rf 16, rf 1, rf 31, iv i, iv c] [iv r, rf 16] (CH sb ss T G L O (0, -1, due, p, q, im) P C B D S N t) Q := by
  refine aw_tree (I0_ok X _) [(true, 49)] [16] rfl ?_
  dsimp only
  repeat' (first | refine And.intro ?_ ?_ | (refine aImp_e0 ?_; intro _) | (refine aImp_n0 ?_; intro _) | (refine aImp_i ?_; intro _))
  all_goals (try (first | omega | exact bI_01 _ | exact bI_lo _ | exact bI_hi _ | exact bI_hi' _ | exact trivial | exact Or.inl rfl | exact Or.inr rfl | (exfalso; omega)))
  exact hQ
theorem c_read_ok0 {X : AX} (d : Nat) (sb ss : Nat) (T : TyT) (G : TyG) (L : TyL) (O : TyO) (due p q im i c : Int) (P : TyP) (C : TyC) (B D : TyB) (S N : TyS) (t : AH) {Q : AQ} (hQ : AW X (d + 9) 0 0 47 16 [rf 16, rf 1, rf 31, iv (i + 1), iv c] [] (CH sb ss T G L O (0, -1, due, p, q, im) P C B D S N t) Q) :
    AW X (d + 9) 0 0 47 36 [rf 16, rf 1, rf 31, iv i, iv c] [iv 0, rf 16] (CH sb ss T G L O (0, -1, due, p, q, im) P C B D S N t) Q := by
  refine aw_tree (I0_ok X _) [(true, 49)] [16] rfl ?_
  dsimp only
  repeat' (first | refine And.intro ?_ ?_ | (refine aImp_e0 ?_; intro _) | (refine aImp_n0 ?_; intro _) | (refine aImp_i ?_; intro _))
  all_goals (try (first | omega | exact bI_01 _ | exact bI_lo _ | exact bI_hi _ | exact bI_hi' _ | exact trivial | exact Or.inl rfl | exact Or.inr rfl | (exfalso; omega)))
  exact hQ
theorem c_read_loop0 {X : AX} (d : Nat) (sb ss : Nat) (T : TyT) (G : TyG) (L : TyL) (O : TyO) (P : TyP) (C : TyC) (B D : TyB) (S N : TyS) (t : AH) {Q : AQ} {R : PR} (tp : FN) (hn : 0 ≤ T.2 ∧ T.2 ≤ 200) (hrt : ∀ i, bAnd (T.1 i) 255 = tp i) (htp : ∀ i, 0 ≤ tp i ∧ tp i ≤ 255)
    (hF : ∀ (b' : TyB) (R' : TyR), (R.1 = 1 ∨ R.1 = 2) → R'.1 = R.1 → R'.2.1 = R.2.1 → (R'.2.2.2.2.2 = 0 ∨ R'.2.2.2.2.2 = 1) → Q (some (iv 0)) (CH sb ss T G L O R' P C b' D S N t))
    (hS : ∀ (b' : TyB) (R' : TyR) (p K : Int), R.1 = 0 → R'.1 = 0 → R'.2.1 = -1 → (R'.2.2.2.2.2 = 0 ∨ R'.2.2.2.2.2 = 1) → inv T.2 0 0 p K R.2.2 → rD b' R.2.2 0 K → Q (some (iv 1)) (CH sb ss T G L O R' P C b' D S N t)) :
    ∀ (f : Nat) (due p sg im i K tq : Int) (pb : PB) (b : TyB) (v4 : AV), 0 ≤ due ∧ due ≤ 5 → inv T.2 (cif (due = 0) 0 1) (cif (due = 4) 4 0) p K pb → rD b pb (cif (due = 0) 0 (pb.2.1 pb.2.2.2)) K → (im = 0 ∨ im = 1) → (due = 4 → im = cif (sg = -1) 1 0 ∧ (sg = 1 ∨ sg = -1) ∧ ∃ q0, ¬ wl tp T.2 q0 = 0 ∧ p = q0 + wl tp T.2 q0) → 0 ≤ i ∧ i ≤ p → T.2 - p < f → prs tp T.2 f due p sg pb = R → AW X (d + 9) 0 0 47 16 [rf 16, rf 1, rf 31, iv i, v4] [] (CH sb ss T G L O (0, -1, due, p, tq, im) P C b D S N t) Q := by
  intro f
  induction f using Nat.strongRecOn with
  | _ f ih =>
    intro due p sg im i K tq pb b v4 hd hi hD him h4 hip hfu hR
    have hi' := hi
    obtain ⟨a1, a2, a3, a4, a5, a6⟩ := hi'
    have hD' := hD
    obtain ⟨d1, d2, d3, d4, d5, d6⟩ := hD'
    obtain ⟨k1, k2, k3⟩ := sk_ok (tp := tp) (n := T.2) _ p rfl
    have k2' := k2 (by omega)
    have hcl := cnt_le pb.1
    have hdz : (due = 0 ∧ cif (due = 0) (0 : Int) 1 = 0) ∨ (¬ due = 0 ∧ cif (due = 0) (0 : Int) 1 = 1) := by
      by_cases h : due = 0
      · exact Or.inl ⟨h, cif_t h _ _⟩
      · exact Or.inr ⟨h, cif_f h _ _⟩
    have hq4 : 0 ≤ cif (due = 4) (4 : Int) 0 := by
      by_cases h : due = 4
      · rw [cif_t h]; omega
      · rw [cif_f h]; omega
    obtain ⟨f1, rfl⟩ : ∃ f1, f = f1 + 1 := ⟨f - 1, by omega⟩
    have ht := tk_r tp T.2 (sk tp T.2 p) htp
    refine aw_tree (I0_ok X _) [(true, 49)] [] rfl ?_
    dsimp only
    repeat' (first | refine And.intro ?_ ?_ | (refine aImp_e0 ?_; intro _) | (refine aImp_n0 ?_; intro _) | (refine aImp_i ?_; intro _))
    all_goals (try (first | omega | exact bI_01 _ | exact bI_lo _ | exact bI_hi _ | exact bI_hi' _ | exact trivial | exact Or.inl rfl | exact Or.inr rfl | (exfalso; omega)))
    refine aw_cf0 (c_nextToken d sb ss T G L O 0 (-1) due p tq im P C b D S N t tp hn hrt htp (by omega)) rfl ?_
    by_cases hE : due = 0 ∧ tk tp T.2 (sk tp T.2 p) = 18
    · obtain ⟨hE0, hE1⟩ := hE
      subst hE0
      rw [prs_end hE1] at hR
      rw [cif_t rfl] at hi hD
      rw [cif_f (by omega)] at hi
      have goal := hS b (0, -1, 0, nx tp T.2 (sk tp T.2 p), sk tp T.2 p, im) p K (by rw [← hR]) rfl rfl him (by rw [← hR]; exact hi) (by rw [← hR]; exact hD)
      rw [hE1]
      refine aw_tree (I0_ok X _) [(true, 49)] [] rfl ?_
      dsimp only
      repeat' (first | refine And.intro ?_ ?_ | (refine aImp_e0 ?_; intro _) | (refine aImp_n0 ?_; intro _) | (refine aImp_i ?_; intro _))
      all_goals (try (first | omega | exact bI_01 _ | exact bI_lo _ | exact bI_hi _ | exact bI_hi' _ | exact trivial | exact Or.inl rfl | exact Or.inr rfl | (exfalso; omega)))
      exact goal
    · have hend : ¬ due = 0 → T.2 ≤ sk tp T.2 p → tk tp T.2 (sk tp T.2 p) = 18 := fun _ h => tk_end h
      have hlt : ¬ tk tp T.2 (sk tp T.2 p) = 18 → sk tp T.2 p < T.2 := fun h => by
        rcases Int.lt_or_le (sk tp T.2 p) T.2 with q | q
        · exact q
        · exact absurd (tk_end q) h
      have hnx : ¬ tk tp T.2 (sk tp T.2 p) = 18 → sk tp T.2 p + 1 ≤ nx tp T.2 (sk tp T.2 p) ∧ nx tp T.2 (sk tp T.2 p) ≤ T.2 := fun h => nx_ok (hlt h)
      generalize hcd : tk tp T.2 (sk tp T.2 p) = c at *
      generalize hqd : sk tp T.2 p = q at *
      generalize hnd : nx tp T.2 q = e at *
      have main : AW X (d + 9) 0 0 47 35 [rf 16, rf 1, rf 31, iv i, iv c] [rf 31, iv c, rf 16, rf 16] (CH sb ss T G L O (0, -1, due, e, q, im) P C b D S N t) Q := by
        refine aw_ck0 (c_take0 _ sb ss T G L O 0 (-1) due e q im P C b D S N t c (by unfold inR; omega) hd him (fun k k0 k1 => ?_) (fun h => ?_) (fun h => ?_) (fun h h1 => ?_) (fun h h1 h2 => ?_) (fun h h1 h2 => ?_) (fun h h1 => ?_) (fun h h1 => ?_) (fun h h1 => ?_) (fun h h1 h2 h3 => ?_) (fun h h1 => ?_) (fun h h1 => ?_) (fun h h1 h2 => ?_) (fun h h1 => ?_) (fun h h1 => ?_) (fun h h1 => ?_) (fun h h1 h2 => ?_)) rfl
        · rw [d2 k k0 k1]; have := a4 k k0 k1; omega
        · subst h
          rw [cif_t rfl] at a5
          omega
        · omega
        · -- L1
          have hR' := prs_L1 (tp := tp) (n := T.2) (f := f1) (p := p) (sg := sg) (pb := pb) h (by rw [hqd, hcd]; exact h1) (by rw [hqd, hcd]; exact hE)
          rw [hR] at hR'
          rw [hqd] at hR'
          exact c_read_bad0 d sb ss T G L O due e q im 1 i c P C b D S N t (Or.inl rfl) (hF b _ (by rw [hR']; exact Or.inl rfl) (by rw [hR']) (by rw [hR']) him)
        · have hR' := prs_L2 (tp := tp) (n := T.2) (f := f1) (p := p) (sg := sg) (pb := pb) h (by rw [hqd, hcd]; exact h1) (by rw [hqd, hcd, ← d2 c h1.1 (by omega)]; exact h2)
          rw [hR] at hR'
          rw [hqd] at hR'
          exact c_read_bad0 d sb ss T G L O due e q im 2 i c P C b D S N t (Or.inr rfl) (hF b _ (by rw [hR']; exact Or.inr rfl) (by rw [hR']) (by rw [hR']) him)
        · -- L
          have hnxc := hnx (by omega)
          have hbc : pb.1 c = -1 := by rw [← d2 c h1.1 (by omega)]; exact h2
          have hR' := prs_L (tp := tp) (n := T.2) (f := f1) (p := p) (sg := sg) (pb := pb) h (by rw [hqd, hcd]; exact h1) (by rw [hqd, hcd]; exact hbc)
          rw [hR, hqd, hcd, hnd] at hR'
          have hq40 : cif (due = 4) (4 : Int) 0 = 0 := cif_f (by omega) _ _
          rw [hq40] at hi
          have hinv := inv_L (p' := e) (by omega) hi (by omega) h1 hbc
          have hcc : cif (cif (due = 0) (0 : Int) 1 = 0) (aUp pb.2.1 pb.2.2.2 0) pb.2.1 = cif (due = 0) (aUp pb.2.1 pb.2.2.2 0) pb.2.1 := by
            rcases h with rfl | rfl
            · rw [cif_t (cif_t rfl _ _), cif_t rfl]
            · rw [cif_f (by rw [cif_f (by omega)]; omega), cif_f (by omega)]
          rw [hcc] at hinv
          have hm : cif (due = 0) (0 : Int) (pb.2.1 pb.2.2.2) = (cif (due = 0) (aUp pb.2.1 pb.2.2.2 0) pb.2.1) pb.2.2.2 := by
            rcases h with rfl | rfl
            · rw [cif_t rfl, cif_t rfl, aUp_s]
            · rw [cif_f (by omega), cif_f (by omega)]
          have hDL := rD_L (nm' := cif (due = 0) (aUp pb.2.1 pb.2.2.2 0) pb.2.1) hD h1 (fun x hx => by
            rcases h with rfl | rfl
            · rw [cif_t rfl, aUp_n _ _ (by omega)]
            · rw [cif_f (by omega)])
          rw [hm] at hDL
          refine c_read_ok0 d sb ss T G L O 2 e q im i c P C (aUp b.1 c b.2.2.2.2.2, b.2.1, b.2.2.1, b.2.2.2.1, b.2.2.2.2.1, b.2.2.2.2.2) D S N t (ih f1 (by omega) 2 e sg im (i + 1) K q _ _ (iv c) (by omega) ?_ ?_ him (fun h => by omega) (by omega) (by omega) hR'.symm)
          · rw [cif_f (by omega), cif_f (by omega)]; exact hinv
          · rw [cif_f (show ¬ (2 : Int) = 0 from by omega)]; exact hDL
        · -- by
          subst h
          have hnxc := hnx (by omega)
          rw [cif_f (by omega), cif_f (by omega)] at hi
          rw [cif_f (by omega)] at hD
          have hR' := prs_2by (tp := tp) (n := T.2) (f := f1) (p := p) (sg := sg) (pb := pb) (by rw [hqd, hcd]; exact h1)
          rw [hR, hqd, hnd] at hR'
          refine c_read_ok0 d sb ss T G L O 3 e q im i c P C b D S N t (ih f1 (by omega) 3 e sg im (i + 1) K q pb b (iv c) (by omega) ?_ ?_ him (fun h => by omega) (by omega) (by omega) hR'.symm)
          · rw [cif_f (by omega), cif_f (by omega)]; exact inv_S hi (by omega)
          · rw [cif_f (by omega)]; exact hD
        · -- comma behind a letter
          subst h
          have hnxc := hnx (by omega)
          rw [cif_f (by omega), cif_f (by omega)] at hi
          rw [cif_f (by omega)] at hD
          have hR' := prs_2c (tp := tp) (n := T.2) (f := f1) (p := p) (sg := sg) (pb := pb) (by rw [hqd, hcd]; exact h1)
          rw [hR, hqd, hnd] at hR'
          refine c_read_ok0 d sb ss T G L O 1 e q im i c P C b D S N t (ih f1 (by omega) 1 e sg im (i + 1) K q pb b (iv c) (by omega) ?_ ?_ him (fun h => by omega) (by omega) (by omega) hR'.symm)
          · rw [cif_f (by omega), cif_f (by omega)]; exact inv_S hi (by omega)
          · rw [cif_f (by omega)]; exact hD
        · -- semicolon
          have hnxc := hnx (by omega)
          have hR' : R = prs tp T.2 f1 0 e sg (pb.1, pb.2.1, pb.2.2.1, pb.2.2.2 + 1) := by
            rcases h with rfl | rfl
            · rw [← hR, prs_2s (by rw [hqd, hcd]; exact h1), hqd, hnd]
            · rw [← hR, prs_5s (by rw [hqd, hcd]; exact h1), hqd, hnd]
          rw [cif_f (by omega), cif_f (by omega)] at hi
          rw [cif_f (by omega)] at hD
          refine c_read_ok0 d sb ss T G L O 0 e q im i c P C (b.1, aUp b.2.1 b.2.2.2.2.2 b.2.2.2.2.1, b.2.2.1, b.2.2.2.1, b.2.2.2.2.1, b.2.2.2.2.2 + 1) D S N t (ih f1 (by omega) 0 e sg im (i + 1) K q _ _ (iv c) (by omega) ?_ ?_ him (fun h => by omega) (by omega) (by omega) hR'.symm)
          · rw [cif_t rfl, cif_f (by omega)]; exact inv_C hi (by omega)
          · rw [cif_t rfl]; exact rD_C hD a2
        · subst h
          have hR' := prs_2x (tp := tp) (n := T.2) (f := f1) (p := p) (sg := sg) (pb := pb) (by rw [hqd, hcd]; exact h1) (by rw [hqd, hcd]; exact h2) (by rw [hqd, hcd]; exact h3)
          rw [hR, hqd] at hR'
          exact c_read_bad0 d sb ss T G L O 2 e q im 1 i c P C b D S N t (Or.inl rfl) (hF b _ (by rw [hR']; exact Or.inl rfl) (by rw [hR']) (by rw [hR']) him)
        · -- least
          subst h
          have hnxc := hnx (by omega)
          rw [cif_f (by omega), cif_f (by omega)] at hi
          rw [cif_f (by omega)] at hD
          have hR' := prs_3l (tp := tp) (n := T.2) (f := f1) (p := p) (sg := sg) (pb := pb) (by rw [hqd, hcd]; exact h1)
          rw [hR, hqd, hnd] at hR'
          have hw := tk_sg (tp := tp) (n := T.2) (q := q) (by omega)
          have ew := nx_w (tp := tp) (n := T.2) (q := q) (by omega)
          refine c_read_ok0 d sb ss T G L O 4 e q 0 i c P C b D S N t (ih f1 (by omega) 4 e 1 0 (i + 1) K q pb b (iv c) (by omega) ?_ ?_ (Or.inl rfl) (fun _ => ⟨by rw [cif_f (by omega)], Or.inl rfl, q, by omega, by omega⟩) (by omega) (by omega) hR'.symm)
          · rw [cif_f (by omega), cif_t rfl]; exact inv_4 hi (by omega)
          · rw [cif_f (by omega)]; exact hD
        · -- most
          subst h
          have hnxc := hnx (by omega)
          rw [cif_f (by omega), cif_f (by omega)] at hi
          rw [cif_f (by omega)] at hD
          have hR' := prs_3m (tp := tp) (n := T.2) (f := f1) (p := p) (sg := sg) (pb := pb) (by rw [hqd, hcd]; exact h1)
          rw [hR, hqd, hnd] at hR'
          have hw := tk_sg (tp := tp) (n := T.2) (q := q) (by omega)
          have ew := nx_w (tp := tp) (n := T.2) (q := q) (by omega)
          refine c_read_ok0 d sb ss T G L O 4 e q 1 i c P C b D S N t (ih f1 (by omega) 4 e (-1) 1 (i + 1) K q pb b (iv c) (by omega) ?_ ?_ (Or.inr rfl) (fun _ => ⟨by rw [cif_t rfl], Or.inr rfl, q, by omega, by omega⟩) (by omega) (by omega) hR'.symm)
          · rw [cif_f (by omega), cif_t rfl]; exact inv_4 hi (by omega)
          · rw [cif_f (by omega)]; exact hD
        · subst h
          have hR' := prs_3x (tp := tp) (n := T.2) (f := f1) (p := p) (sg := sg) (pb := pb) (by rw [hqd, hcd]; exact h1) (by rw [hqd, hcd]; exact h2)
          rw [hR, hqd] at hR'
          exact c_read_bad0 d sb ss T G L O 3 e q 0 1 i c P C b D S N t (Or.inl rfl) (hF b _ (by rw [hR']; exact Or.inl rfl) (by rw [hR']) (by rw [hR']) (Or.inl rfl))
        · -- a field
          subst h
          have hnxc := hnx (by omega)
          rw [cif_f (by omega), cif_t rfl] at hi
          rw [cif_f (by omega)] at hD
          rw [cif_t rfl] at a5
          obtain ⟨h41, h42, q0, h43, h44⟩ := h4 rfl
          have hR' := prs_4k (tp := tp) (n := T.2) (f := f1) (p := p) (sg := sg) (pb := pb) (by rw [hqd, hcd]; exact h1)
          rw [hR, hqd, hcd, hnd] at hR'
          have hw := tk_fd (tp := tp) (n := T.2) (q := q) (by rw [hcd]; exact h1)
          have ew := nx_w (tp := tp) (n := T.2) (q := q) (by omega)
          have gap := sk_gap (tp := tp) (n := T.2) (q := q0) h43 (by rw [← h44, hqd]; omega)
          rw [← h44, hqd] at gap
          refine c_read_ok0 d sb ss T G L O 5 e q im i c P C (b.1, b.2.1, aUp b.2.2.1 b.2.2.2.2.1 c, aUp b.2.2.2.1 b.2.2.2.2.1 im, b.2.2.2.2.1 + 1, b.2.2.2.2.2) D S N t (ih f1 (by omega) 5 e sg im (i + 1) (K + 1) q _ _ (iv c) (by omega) ?_ ?_ him (fun h => by omega) (by omega) (by omega) hR'.symm)
          · rw [cif_f (by omega), cif_f (by omega)]; exact inv_K hi (by omega) (by omega) h42
          · rw [cif_f (by omega)]; exact rD_K hD a2 (by omega) h41 (fun x x0 x1 => (hi.2.2.2.2.2 x x0 x1).1)
        · subst h
          have hR' := prs_4x (tp := tp) (n := T.2) (f := f1) (p := p) (sg := sg) (pb := pb) (by rw [hqd, hcd]; exact h1)
          rw [hR, hqd] at hR'
          exact c_read_bad0 d sb ss T G L O 4 e q im 1 i c P C b D S N t (Or.inl rfl) (hF b _ (by rw [hR']; exact Or.inl rfl) (by rw [hR']) (by rw [hR']) him)
        · -- comma behind a key
          subst h
          have hnxc := hnx (by omega)
          rw [cif_f (by omega), cif_f (by omega)] at hi
          rw [cif_f (by omega)] at hD
          have hR' := prs_5c (tp := tp) (n := T.2) (f := f1) (p := p) (sg := sg) (pb := pb) (by rw [hqd, hcd]; exact h1)
          rw [hR, hqd, hnd] at hR'
          refine c_read_ok0 d sb ss T G L O 3 e q im i c P C b D S N t (ih f1 (by omega) 3 e sg im (i + 1) K q pb b (iv c) (by omega) ?_ ?_ him (fun h => by omega) (by omega) (by omega) hR'.symm)
          · rw [cif_f (by omega), cif_f (by omega)]; exact inv_S hi (by omega)
          · rw [cif_f (by omega)]; exact hD
        · subst h
          have hR' := prs_5x (tp := tp) (n := T.2) (f := f1) (p := p) (sg := sg) (pb := pb) (by rw [hqd, hcd]; exact h1) (by rw [hqd, hcd]; exact h2)
          rw [hR, hqd] at hR'
          exact c_read_bad0 d sb ss T G L O 5 e q im 1 i c P C b D S N t (Or.inl rfl) (hF b _ (by rw [hR']; exact Or.inl rfl) (by rw [hR']) (by rw [hR']) him)
      refine aw_tree (I0_ok X _) [(true, 49)] [] rfl ?_
      dsimp only
      repeat' (first | refine And.intro ?_ ?_ | (refine aImp_e0 ?_; intro _) | (refine aImp_n0 ?_; intro _) | (refine aImp_i ?_; intro _))
      all_goals (try (first | omega | exact bI_01 _ | exact bI_lo _ | exact bI_hi _ | exact bI_hi' _ | exact trivial | exact Or.inl rfl | exact Or.inr rfl | (exfalso; omega)))
      all_goals exact main
theorem c_read_bad1 {X : AX} (d : Nat) (sb ss : Nat) (T : TyT) (G : TyG) (L : TyL) (O : TyO) (due p q im r i c : Int) (P : TyP) (C : TyC) (B D : TyB) (S N : TyS) (t : AH) {Q : AQ} (hr : r = 1 ∨ r = 2) (hQ : Q (some (iv 0)) (CH sb ss T G L O (r, q, due, p, q, im) P C B D S N t)) :
    AW X (d + 9) 0 0 47 36 [rf 16, rf 1, rf 36, iv i, iv c] [iv r, rf 16] (CH sb ss T G L O (0, -1, due, p, q, im) P C B D S N t) Q := by
  refine aw_tree (I0_ok X _) [(true, 49)] [16] rfl ?_
  dsimp only
  repeat' (first | refine And.intro ?_ ?_ | (refine aImp_e0 ?_; intro _) | (refine aImp_n0 ?_; intro _) | (refine aImp_i ?_; intro _))
  all_goals (try (first | omega | exact bI_01 _ | exact bI_lo _ | exact bI_hi _ | exact bI_hi' _ | exact trivial | exact Or.inl rfl | exact Or.inr rfl | (exfalso; omega)))
  exact hQ
theorem c_read_ok1 {X : AX} (d : Nat) (sb ss : Nat) (T : TyT) (G : TyG) (L : TyL) (O : TyO) (due p q im i c : Int) (P : TyP) (C : TyC) (B D : TyB) (S N : TyS) (t : AH) {Q : AQ} (hQ : AW X (d + 9) 0 0 47 16 [rf 16, rf 1, rf 36, iv (i + 1), iv c] [] (CH sb ss T G L O (0, -1, due, p, q, im) P C B D S N t) Q) :
    AW X (d + 9) 0 0 47 36 [rf 16, rf 1, rf 36, iv i, iv c] [iv 0, rf 16] (CH sb ss T G L O (0, -1, due, p, q, im) P C B D S N t) Q := by
  refine aw_tree (I0_ok X _) [(true, 49)] [16] rfl ?_
  dsimp only
  repeat' (first | refine And.intro ?_ ?_ | (refine aImp_e0 ?_; intro _) | (refine aImp_n0 ?_; intro _) | (refine aImp_i ?_; intro _))
  all_goals (try (first | omega | exact bI_01 _ | exact bI_lo _ | exact bI_hi _ | exact bI_hi' _ | exact trivial | exact Or.inl rfl | exact Or.inr rfl | (exfalso; omega)))
  exact hQ
theorem c_read_loop1 {X : AX} (d : Nat) (sb ss : Nat) (T : TyT) (G : TyG) (L : TyL) (O : TyO) (P : TyP) (C : TyC) (B D : TyB) (S N : TyS) (t : AH) {Q : AQ} {R : PR} (tp : FN) (hn : 0 ≤ T.2 ∧ T.2 ≤ 200) (hrt : ∀ i, bAnd (T.1 i) 255 = tp i) (htp : ∀ i, 0 ≤ tp i ∧ tp i ≤ 255)
    (hF : ∀ (b' : TyB) (R' : TyR), (R.1 = 1 ∨ R.1 = 2) → R'.1 = R.1 → R'.2.1 = R.2.1 → (R'.2.2.2.2.2 = 0 ∨ R'.2.2.2.2.2 = 1) → Q (some (iv 0)) (CH sb ss T G L O R' P C B b' S N t))
    (hS : ∀ (b' : TyB) (R' : TyR) (p K : Int), R.1 = 0 → R'.1 = 0 → R'.2.1 = -1 → (R'.2.2.2.2.2 = 0 ∨ R'.2.2.2.2.2 = 1) → inv T.2 0 0 p K R.2.2 → rD b' R.2.2 0 K → Q (some (iv 1)) (CH sb ss T G L O R' P C B b' S N t)) :
    ∀ (f : Nat) (due p sg im i K tq : Int) (pb : PB) (b : TyB) (v4 : AV), 0 ≤ due ∧ due ≤ 5 → inv T.2 (cif (due = 0) 0 1) (cif (due = 4) 4 0) p K pb → rD b pb (cif (due = 0) 0 (pb.2.1 pb.2.2.2)) K → (im = 0 ∨ im = 1) → (due = 4 → im = cif (sg = -1) 1 0 ∧ (sg = 1 ∨ sg = -1) ∧ ∃ q0, ¬ wl tp T.2 q0 = 0 ∧ p = q0 + wl tp T.2 q0) → 0 ≤ i ∧ i ≤ p → T.2 - p < f → prs tp T.2 f due p sg pb = R → AW X (d + 9) 0 0 47 16 [rf 16, rf 1, rf 36, iv i, v4] [] (CH sb ss T G L O (0, -1, due, p, tq, im) P C B b S N t) Q := by
  intro f
  induction f using Nat.strongRecOn with
  | _ f ih =>
    intro due p sg im i K tq pb b v4 hd hi hD him h4 hip hfu hR
    have hi' := hi
    obtain ⟨a1, a2, a3, a4, a5, a6⟩ := hi'
    have hD' := hD
    obtain ⟨d1, d2, d3, d4, d5, d6⟩ := hD'
    obtain ⟨k1, k2, k3⟩ := sk_ok (tp := tp) (n := T.2) _ p rfl
    have k2' := k2 (by omega)
    have hcl := cnt_le pb.1
    have hdz : (due = 0 ∧ cif (due = 0) (0 : Int) 1 = 0) ∨ (¬ due = 0 ∧ cif (due = 0) (0 : Int) 1 = 1) := by
      by_cases h : due = 0
      · exact Or.inl ⟨h, cif_t h _ _⟩
      · exact Or.inr ⟨h, cif_f h _ _⟩
    have hq4 : 0 ≤ cif (due = 4) (4 : Int) 0 := by
      by_cases h : due = 4
      · rw [cif_t h]; omega
      · rw [cif_f h]; omega
    obtain ⟨f1, rfl⟩ : ∃ f1, f = f1 + 1 := ⟨f - 1, by omega⟩
    have ht := tk_r tp T.2 (sk tp T.2 p) htp
    refine aw_tree (I0_ok X _) [(true, 49)] [] rfl ?_
    dsimp only
    repeat' (first | refine And.intro ?_ ?_ | (refine aImp_e0 ?_; intro _) | (refine aImp_n0 ?_; intro _) | (refine aImp_i ?_; intro _))
    all_goals (try (first | omega | exact bI_01 _ | exact bI_lo _ | exact bI_hi _ | exact bI_hi' _ | exact trivial | exact Or.inl rfl | exact Or.inr rfl | (exfalso; omega)))
    refine aw_cf0 (c_nextToken d sb ss T G L O 0 (-1) due p tq im P C B b S N t tp hn hrt htp (by omega)) rfl ?_
    by_cases hE : due = 0 ∧ tk tp T.2 (sk tp T.2 p) = 18
    · obtain ⟨hE0, hE1⟩ := hE
      subst hE0
      rw [prs_end hE1] at hR
      rw [cif_t rfl] at hi hD
      rw [cif_f (by omega)] at hi
      have goal := hS b (0, -1, 0, nx tp T.2 (sk tp T.2 p), sk tp T.2 p, im) p K (by rw [← hR]) rfl rfl him (by rw [← hR]; exact hi) (by rw [← hR]; exact hD)
      rw [hE1]
      refine aw_tree (I0_ok X _) [(true, 49)] [] rfl ?_
      dsimp only
      repeat' (first | refine And.intro ?_ ?_ | (refine aImp_e0 ?_; intro _) | (refine aImp_n0 ?_; intro _) | (refine aImp_i ?_; intro _))
      all_goals (try (first | omega | exact bI_01 _ | exact bI_lo _ | exact bI_hi _ | exact bI_hi' _ | exact trivial | exact Or.inl rfl | exact Or.inr rfl | (exfalso; omega)))
      exact goal
    · have hend : ¬ due = 0 → T.2 ≤ sk tp T.2 p → tk tp T.2 (sk tp T.2 p) = 18 := fun _ h => tk_end h
      have hlt : ¬ tk tp T.2 (sk tp T.2 p) = 18 → sk tp T.2 p < T.2 := fun h => by
        rcases Int.lt_or_le (sk tp T.2 p) T.2 with q | q
        · exact q
        · exact absurd (tk_end q) h
      have hnx : ¬ tk tp T.2 (sk tp T.2 p) = 18 → sk tp T.2 p + 1 ≤ nx tp T.2 (sk tp T.2 p) ∧ nx tp T.2 (sk tp T.2 p) ≤ T.2 := fun h => nx_ok (hlt h)
      generalize hcd : tk tp T.2 (sk tp T.2 p) = c at *
      generalize hqd : sk tp T.2 p = q at *
      generalize hnd : nx tp T.2 q = e at *
      have main : AW X (d + 9) 0 0 47 35 [rf 16, rf 1, rf 36, iv i, iv c] [rf 36, iv c, rf 16, rf 16] (CH sb ss T G L O (0, -1, due, e, q, im) P C B b S N t) Q := by
        refine aw_ck0 (c_take1 _ sb ss T G L O 0 (-1) due e q im P C B b S N t c (by unfold inR; omega) hd him (fun k k0 k1 => ?_) (fun h => ?_) (fun h => ?_) (fun h h1 => ?_) (fun h h1 h2 => ?_) (fun h h1 h2 => ?_) (fun h h1 => ?_) (fun h h1 => ?_) (fun h h1 => ?_) (fun h h1 h2 h3 => ?_) (fun h h1 => ?_) (fun h h1 => ?_) (fun h h1 h2 => ?_) (fun h h1 => ?_) (fun h h1 => ?_) (fun h h1 => ?_) (fun h h1 h2 => ?_)) rfl
        · rw [d2 k k0 k1]; have := a4 k k0 k1; omega
        · subst h
          rw [cif_t rfl] at a5
          omega
        · omega
        · -- L1
          have hR' := prs_L1 (tp := tp) (n := T.2) (f := f1) (p := p) (sg := sg) (pb := pb) h (by rw [hqd, hcd]; exact h1) (by rw [hqd, hcd]; exact hE)
          rw [hR] at hR'
          rw [hqd] at hR'
          exact c_read_bad1 d sb ss T G L O due e q im 1 i c P C B b S N t (Or.inl rfl) (hF b _ (by rw [hR']; exact Or.inl rfl) (by rw [hR']) (by rw [hR']) him)
        · have hR' := prs_L2 (tp := tp) (n := T.2) (f := f1) (p := p) (sg := sg) (pb := pb) h (by rw [hqd, hcd]; exact h1) (by rw [hqd, hcd, ← d2 c h1.1 (by omega)]; exact h2)
          rw [hR] at hR'
          rw [hqd] at hR'
          exact c_read_bad1 d sb ss T G L O due e q im 2 i c P C B b S N t (Or.inr rfl) (hF b _ (by rw [hR']; exact Or.inr rfl) (by rw [hR']) (by rw [hR']) him)
        · -- L
          have hnxc := hnx (by omega)
          have hbc : pb.1 c = -1 := by rw [← d2 c h1.1 (by omega)]; exact h2
          have hR' := prs_L (tp := tp) (n := T.2) (f := f1) (p := p) (sg := sg) (pb := pb) h (by rw [hqd, hcd]; exact h1) (by rw [hqd, hcd]; exact hbc)
          rw [hR, hqd, hcd, hnd] at hR'
          have hq40 : cif (due = 4) (4 : Int) 0 = 0 := cif_f (by omega) _ _
          rw [hq40] at hi
          have hinv := inv_L (p' := e) (by omega) hi (by omega) h1 hbc
          have hcc : cif (cif (due = 0) (0 : Int) 1 = 0) (aUp pb.2.1 pb.2.2.2 0) pb.2.1 = cif (due = 0) (aUp pb.2.1 pb.2.2.2 0) pb.2.1 := by
            rcases h with rfl | rfl
            · rw [cif_t (cif_t rfl _ _), cif_t rfl]
            · rw [cif_f (by rw [cif_f (by omega)]; omega), cif_f (by omega)]
          rw [hcc] at hinv
          have hm : cif (due = 0) (0 : Int) (pb.2.1 pb.2.2.2) = (cif (due = 0) (aUp pb.2.1 pb.2.2.2 0) pb.2.1) pb.2.2.2 := by
            rcases h with rfl | rfl
            · rw [cif_t rfl, cif_t rfl, aUp_s]
            · rw [cif_f (by omega), cif_f (by omega)]
          have hDL := rD_L (nm' := cif (due = 0) (aUp pb.2.1 pb.2.2.2 0) pb.2.1) hD h1 (fun x hx => by
            rcases h with rfl | rfl
            · rw [cif_t rfl, aUp_n _ _ (by omega)]
            · rw [cif_f (by omega)])
          rw [hm] at hDL
          refine c_read_ok1 d sb ss T G L O 2 e q im i c P C B (aUp b.1 c b.2.2.2.2.2, b.2.1, b.2.2.1, b.2.2.2.1, b.2.2.2.2.1, b.2.2.2.2.2) S N t (ih f1 (by omega) 2 e sg im (i + 1) K q _ _ (iv c) (by omega) ?_ ?_ him (fun h => by omega) (by omega) (by omega) hR'.symm)
          · rw [cif_f (by omega), cif_f (by omega)]; exact hinv
          · rw [cif_f (show ¬ (2 : Int) = 0 from by omega)]; exact hDL
        · -- by
          subst h
          have hnxc := hnx (by omega)
          rw [cif_f (by omega), cif_f (by omega)] at hi
          rw [cif_f (by omega)] at hD
          have hR' := prs_2by (tp := tp) (n := T.2) (f := f1) (p := p) (sg := sg) (pb := pb) (by rw [hqd, hcd]; exact h1)
          rw [hR, hqd, hnd] at hR'
          refine c_read_ok1 d sb ss T G L O 3 e q im i c P C B b S N t (ih f1 (by omega) 3 e sg im (i + 1) K q pb b (iv c) (by omega) ?_ ?_ him (fun h => by omega) (by omega) (by omega) hR'.symm)
          · rw [cif_f (by omega), cif_f (by omega)]; exact inv_S hi (by omega)
          · rw [cif_f (by omega)]; exact hD
        · -- comma behind a letter
          subst h
          have hnxc := hnx (by omega)
          rw [cif_f (by omega), cif_f (by omega)] at hi
          rw [cif_f (by omega)] at hD
          have hR' := prs_2c (tp := tp) (n := T.2) (f := f1) (p := p) (sg := sg) (pb := pb) (by rw [hqd, hcd]; exact h1)
          rw [hR, hqd, hnd] at hR'
          refine c_read_ok1 d sb ss T G L O 1 e q im i c P C B b S N t (ih f1 (by omega) 1 e sg im (i + 1) K q pb b (iv c) (by omega) ?_ ?_ him (fun h => by omega) (by omega) (by omega) hR'.symm)
          · rw [cif_f (by omega), cif_f (by omega)]; exact inv_S hi (by omega)
          · rw [cif_f (by omega)]; exact hD
        · -- semicolon
          have hnxc := hnx (by omega)
          have hR' : R = prs tp T.2 f1 0 e sg (pb.1, pb.2.1, pb.2.2.1, pb.2.2.2 + 1) := by
            rcases h with rfl | rfl
            · rw [← hR, prs_2s (by rw [hqd, hcd]; exact h1), hqd, hnd]
            · rw [← hR, prs_5s (by rw [hqd, hcd]; exact h1), hqd, hnd]
          rw [cif_f (by omega), cif_f (by omega)] at hi
          rw [cif_f (by omega)] at hD
          refine c_read_ok1 d sb ss T G L O 0 e q im i c P C B (b.1, aUp b.2.1 b.2.2.2.2.2 b.2.2.2.2.1, b.2.2.1, b.2.2.2.1, b.2.2.2.2.1, b.2.2.2.2.2 + 1) S N t (ih f1 (by omega) 0 e sg im (i + 1) K q _ _ (iv c) (by omega) ?_ ?_ him (fun h => by omega) (by omega) (by omega) hR'.symm)
          · rw [cif_t rfl, cif_f (by omega)]; exact inv_C hi (by omega)
          · rw [cif_t rfl]; exact rD_C hD a2
        · subst h
          have hR' := prs_2x (tp := tp) (n := T.2) (f := f1) (p := p) (sg := sg) (pb := pb) (by rw [hqd, hcd]; exact h1) (by rw [hqd, hcd]; exact h2) (by rw [hqd, hcd]; exact h3)
          rw [hR, hqd] at hR'
          exact c_read_bad1 d sb ss T G L O 2 e q im 1 i c P C B b S N t (Or.inl rfl) (hF b _ (by rw [hR']; exact Or.inl rfl) (by rw [hR']) (by rw [hR']) him)
        · -- least
          subst h
          have hnxc := hnx (by omega)
          rw [cif_f (by omega), cif_f (by omega)] at hi
          rw [cif_f (by omega)] at hD
          have hR' := prs_3l (tp := tp) (n := T.2) (f := f1) (p := p) (sg := sg) (pb := pb) (by rw [hqd, hcd]; exact h1)
          rw [hR, hqd, hnd] at hR'
          have hw := tk_sg (tp := tp) (n := T.2) (q := q) (by omega)
          have ew := nx_w (tp := tp) (n := T.2) (q := q) (by omega)
          refine c_read_ok1 d sb ss T G L O 4 e q 0 i c P C B b S N t (ih f1 (by omega) 4 e 1 0 (i + 1) K q pb b (iv c) (by omega) ?_ ?_ (Or.inl rfl) (fun _ => ⟨by rw [cif_f (by omega)], Or.inl rfl, q, by omega, by omega⟩) (by omega) (by omega) hR'.symm)
          · rw [cif_f (by omega), cif_t rfl]; exact inv_4 hi (by omega)
          · rw [cif_f (by omega)]; exact hD
        · -- most
          subst h
          have hnxc := hnx (by omega)
          rw [cif_f (by omega), cif_f (by omega)] at hi
          rw [cif_f (by omega)] at hD
          have hR' := prs_3m (tp := tp) (n := T.2) (f := f1) (p := p) (sg := sg) (pb := pb) (by rw [hqd, hcd]; exact h1)
          rw [hR, hqd, hnd] at hR'
          have hw := tk_sg (tp := tp) (n := T.2) (q := q) (by omega)
          have ew := nx_w (tp := tp) (n := T.2) (q := q) (by omega)
          refine c_read_ok1 d sb ss T G L O 4 e q 1 i c P C B b S N t (ih f1 (by omega) 4 e (-1) 1 (i + 1) K q pb b (iv c) (by omega) ?_ ?_ (Or.inr rfl) (fun _ => ⟨by rw [cif_t rfl], Or.inr rfl, q, by omega, by omega⟩) (by omega) (by omega) hR'.symm)
          · rw [cif_f (by omega), cif_t rfl]; exact inv_4 hi (by omega)
          · rw [cif_f (by omega)]; exact hD
        · subst h
          have hR' := prs_3x (tp := tp) (n := T.2) (f := f1) (p := p) (sg := sg) (pb := pb) (by rw [hqd, hcd]; exact h1) (by rw [hqd, hcd]; exact h2)
          rw [hR, hqd] at hR'
          exact c_read_bad1 d sb ss T G L O 3 e q 0 1 i c P C B b S N t (Or.inl rfl) (hF b _ (by rw [hR']; exact Or.inl rfl) (by rw [hR']) (by rw [hR']) (Or.inl rfl))
        · -- a field
          subst h
          have hnxc := hnx (by omega)
          rw [cif_f (by omega), cif_t rfl] at hi
          rw [cif_f (by omega)] at hD
          rw [cif_t rfl] at a5
          obtain ⟨h41, h42, q0, h43, h44⟩ := h4 rfl
          have hR' := prs_4k (tp := tp) (n := T.2) (f := f1) (p := p) (sg := sg) (pb := pb) (by rw [hqd, hcd]; exact h1)
          rw [hR, hqd, hcd, hnd] at hR'
          have hw := tk_fd (tp := tp) (n := T.2) (q := q) (by rw [hcd]; exact h1)
          have ew := nx_w (tp := tp) (n := T.2) (q := q) (by omega)
          have gap := sk_gap (tp := tp) (n := T.2) (q := q0) h43 (by rw [← h44, hqd]; omega)
          rw [← h44, hqd] at gap
          refine c_read_ok1 d sb ss T G L O 5 e q im i c P C B (b.1, b.2.1, aUp b.2.2.1 b.2.2.2.2.1 c, aUp b.2.2.2.1 b.2.2.2.2.1 im, b.2.2.2.2.1 + 1, b.2.2.2.2.2) S N t (ih f1 (by omega) 5 e sg im (i + 1) (K + 1) q _ _ (iv c) (by omega) ?_ ?_ him (fun h => by omega) (by omega) (by omega) hR'.symm)
          · rw [cif_f (by omega), cif_f (by omega)]; exact inv_K hi (by omega) (by omega) h42
          · rw [cif_f (by omega)]; exact rD_K hD a2 (by omega) h41 (fun x x0 x1 => (hi.2.2.2.2.2 x x0 x1).1)
        · subst h
          have hR' := prs_4x (tp := tp) (n := T.2) (f := f1) (p := p) (sg := sg) (pb := pb) (by rw [hqd, hcd]; exact h1)
          rw [hR, hqd] at hR'
          exact c_read_bad1 d sb ss T G L O 4 e q im 1 i c P C B b S N t (Or.inl rfl) (hF b _ (by rw [hR']; exact Or.inl rfl) (by rw [hR']) (by rw [hR']) him)
        · -- comma behind a key
          subst h
          have hnxc := hnx (by omega)
          rw [cif_f (by omega), cif_f (by omega)] at hi
          rw [cif_f (by omega)] at hD
          have hR' := prs_5c (tp := tp) (n := T.2) (f := f1) (p := p) (sg := sg) (pb := pb) (by rw [hqd, hcd]; exact h1)
          rw [hR, hqd, hnd] at hR'
          refine c_read_ok1 d sb ss T G L O 3 e q im i c P C B b S N t (ih f1 (by omega) 3 e sg im (i + 1) K q pb b (iv c) (by omega) ?_ ?_ him (fun h => by omega) (by omega) (by omega) hR'.symm)
          · rw [cif_f (by omega), cif_f (by omega)]; exact inv_S hi (by omega)
          · rw [cif_f (by omega)]; exact hD
        · subst h
          have hR' := prs_5x (tp := tp) (n := T.2) (f := f1) (p := p) (sg := sg) (pb := pb) (by rw [hqd, hcd]; exact h1) (by rw [hqd, hcd]; exact h2)
          rw [hR, hqd] at hR'
          exact c_read_bad1 d sb ss T G L O 5 e q im 1 i c P C B b S N t (Or.inl rfl) (hF b _ (by rw [hR']; exact Or.inl rfl) (by rw [hR']) (by rw [hR']) him)
      refine aw_tree (I0_ok X _) [(true, 49)] [] rfl ?_
      dsimp only
      repeat' (first | refine And.intro ?_ ?_ | (refine aImp_e0 ?_; intro _) | (refine aImp_n0 ?_; intro _) | (refine aImp_i ?_; intro _))
      all_goals (try (first | omega | exact bI_01 _ | exact bI_lo _ | exact bI_hi _ | exact bI_hi' _ | exact trivial | exact Or.inl rfl | exact Or.inr rfl | (exfalso; omega)))
      all_goals exact main

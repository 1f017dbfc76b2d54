/-! ===== the law ===== -/
theorem J_moved {X : AX} (sb ss : Nat) (T : TyT) (G : TyG) (L : TyL) (O : TyO) (R : TyR) (P : TyP) (C : TyC) (B D : TyB) (S N : TyS) (β : List TyBn) (mT : TyT) (mG : TyMG) (mR : TyMR) (mU : TyMU) (mP : TyMP) (mO : TyO) (mS : TyMS) (mN : TyMN) (h : RR sb ss T G L O R C B D S N β mT mG mR mU mP mS mN)  : JS X 0 0 90 133 [] (CV (CA sb ss T G L O R P C B D S N) (MV (MA mT mG mR mU mP mO mS mN) (BH 73 β))) (MA mT mG mR mU mP mO mS mN) := by
  rcases h.2.1 with rfl | rfl
  · exact J_moved0 sb T G L O R P C B D S N β mT mG mR mU mP mO mS mN h 
  · exact J_moved1 sb T G L O R P C B D S N β mT mG mR mU mP mO mS mN h 
theorem J_sits {X : AX} (sb ss : Nat) (T : TyT) (G : TyG) (L : TyL) (O : TyO) (R : TyR) (P : TyP) (C : TyC) (B D : TyB) (S N : TyS) (β : List TyBn) (mT : TyT) (mG : TyMG) (mR : TyMR) (mU : TyMU) (mP : TyMP) (mO : TyO) (mS : TyMS) (mN : TyMN) (h : RR sb ss T G L O R C B D S N β mT mG mR mU mP mS mN) (g w : Int) (hg : inR g) (hw : inR w) : JS X 0 0 91 135 [iv g, iv w] (CV (CA sb ss T G L O R P C B D S N) (MV (MA mT mG mR mU mP mO mS mN) (BH 73 β))) (MA mT mG mR mU mP mO mS mN) := by
  rcases h.2.1 with rfl | rfl
  · exact J_sits0 sb T G L O R P C B D S N β mT mG mR mU mP mO mS mN h g w hg hw
  · exact J_sits1 sb T G L O R P C B D S N β mT mG mR mU mP mO mS mN h g w hg hw
theorem J_at {X : AX} (sb ss : Nat) (T : TyT) (G : TyG) (L : TyL) (O : TyO) (R : TyR) (P : TyP) (C : TyC) (B D : TyB) (S N : TyS) (β : List TyBn) (mT : TyT) (mG : TyMG) (mR : TyMR) (mU : TyMU) (mP : TyMP) (mO : TyO) (mS : TyMS) (mN : TyMN) (h : RR sb ss T G L O R C B D S N β mT mG mR mU mP mS mN) (row place : Int) (hr : inR row) (hp : inR place) : JS X 0 0 92 136 [iv row, iv place] (CV (CA sb ss T G L O R P C B D S N) (MV (MA mT mG mR mU mP mO mS mN) (BH 73 β))) (MA mT mG mR mU mP mO mS mN) := by
  rcases h.2.1 with rfl | rfl
  · exact J_at0 sb T G L O R P C B D S N β mT mG mR mU mP mO mS mN h row place hr hp
  · exact J_at1 sb T G L O R P C B D S N β mT mG mR mU mP mO mS mN h row place hr hp
theorem J_spare {X : AX} (sb ss : Nat) (T : TyT) (G : TyG) (L : TyL) (O : TyO) (R : TyR) (P : TyP) (C : TyC) (B D : TyB) (S N : TyS) (β : List TyBn) (mT : TyT) (mG : TyMG) (mR : TyMR) (mU : TyMU) (mP : TyMP) (mO : TyO) (mS : TyMS) (mN : TyMN) (h : RR sb ss T G L O R C B D S N β mT mG mR mU mP mS mN) (row : Int) (hr : inR row) : JS X 0 0 93 137 [iv row] (CV (CA sb ss T G L O R P C B D S N) (MV (MA mT mG mR mU mP mO mS mN) (BH 73 β))) (MA mT mG mR mU mP mO mS mN) := by
  rcases h.2.1 with rfl | rfl
  · exact J_spare0 sb T G L O R P C B D S N β mT mG mR mU mP mO mS mN h row hr
  · exact J_spare1 sb T G L O R P C B D S N β mT mG mR mU mP mO mS mN h row hr
theorem J_hidden {X : AX} (sb ss : Nat) (T : TyT) (G : TyG) (L : TyL) (O : TyO) (R : TyR) (P : TyP) (C : TyC) (B D : TyB) (S N : TyS) (β : List TyBn) (mT : TyT) (mG : TyMG) (mR : TyMR) (mU : TyMU) (mP : TyMP) (mO : TyO) (mS : TyMS) (mN : TyMN) (h : RR sb ss T G L O R C B D S N β mT mG mR mU mP mS mN) (g : Int) (hg : inR g) : JS X 0 0 94 139 [iv g] (CV (CA sb ss T G L O R P C B D S N) (MV (MA mT mG mR mU mP mO mS mN) (BH 73 β))) (MA mT mG mR mU mP mO mS mN) := by
  rcases h.2.1 with rfl | rfl
  · exact J_hidden0 sb T G L O R P C B D S N β mT mG mR mU mP mO mS mN h g hg
  · exact J_hidden1 sb T G L O R P C B D S N β mT mG mR mU mP mO mS mN h g hg
theorem J_hider {X : AX} (sb ss : Nat) (T : TyT) (G : TyG) (L : TyL) (O : TyO) (R : TyR) (P : TyP) (C : TyC) (B D : TyB) (S N : TyS) (β : List TyBn) (mT : TyT) (mG : TyMG) (mR : TyMR) (mU : TyMU) (mP : TyMP) (mO : TyO) (mS : TyMS) (mN : TyMN) (h : RR sb ss T G L O R C B D S N β mT mG mR mU mP mS mN) (g kk : Int) (hg : inR g) (hkk : inR kk) : JS X 0 0 95 140 [iv g, iv kk] (CV (CA sb ss T G L O R P C B D S N) (MV (MA mT mG mR mU mP mO mS mN) (BH 73 β))) (MA mT mG mR mU mP mO mS mN) := by
  rcases h.2.1 with rfl | rfl
  · exact J_hider0 sb T G L O R P C B D S N β mT mG mR mU mP mO mS mN h g kk hg hkk
  · exact J_hider1 sb T G L O R P C B D S N β mT mG mR mU mP mO mS mN h g kk hg hkk
theorem J_stage {X : AX} (sb ss : Nat) (T : TyT) (G : TyG) (L : TyL) (O : TyO) (R : TyR) (P : TyP) (C : TyC) (B D : TyB) (S N : TyS) (β : List TyBn) (mT : TyT) (mG : TyMG) (mR : TyMR) (mU : TyMU) (mP : TyMP) (mO : TyO) (mS : TyMS) (mN : TyMN) (h : RR sb ss T G L O R C B D S N β mT mG mR mU mP mS mN) (g : Int) (hg : inR g) : JS X 0 0 96 141 [iv g] (CV (CA sb ss T G L O R P C B D S N) (MV (MA mT mG mR mU mP mO mS mN) (BH 73 β))) (MA mT mG mR mU mP mO mS mN) := by
  rcases h.2.1 with rfl | rfl
  · exact J_stage0 sb T G L O R P C B D S N β mT mG mR mU mP mO mS mN h g hg
  · exact J_stage1 sb T G L O R P C B D S N β mT mG mR mU mP mO mS mN h g hg
theorem J_morning {X : AX} (sb ss : Nat) (T : TyT) (G : TyG) (L : TyL) (O : TyO) (R : TyR) (P : TyP) (C : TyC) (B D : TyB) (S N : TyS) (β : List TyBn) (mT : TyT) (mG : TyMG) (mR : TyMR) (mU : TyMU) (mP : TyMP) (mO : TyO) (mS : TyMS) (mN : TyMN) (h : RR sb ss T G L O R C B D S N β mT mG mR mU mP mS mN) (n sh : Int) (hn : inR n) (hsh : inR sh) : JS X 0 0 97 142 [iv n, iv sh] (CV (CA sb ss T G L O R P C B D S N) (MV (MA mT mG mR mU mP mO mS mN) (BH 73 β))) (MA mT mG mR mU mP mO mS mN) := by
  rcases h.2.1 with rfl | rfl
  · exact J_morning0 sb T G L O R P C B D S N β mT mG mR mU mP mO mS mN h n sh hn hsh
  · exact J_morning1 sb T G L O R P C B D S N β mT mG mR mU mP mO mS mN h n sh hn hsh
theorem J_all {X : AX} (sb ss : Nat) (T : TyT) (G : TyG) (L : TyL) (O : TyO) (R : TyR) (P : TyP) (C : TyC) (B D : TyB) (S N : TyS) (β : List TyBn) (mT : TyT) (mG : TyMG) (mR : TyMR) (mU : TyMU) (mP : TyMP) (mO : TyO) (mS : TyMS) (mN : TyMN) (h : RR sb ss T G L O R C B D S N β mT mG mR mU mP mS mN) (w : Int) (hw : inR w) : JS X 0 0 99 144 [iv w] (CV (CA sb ss T G L O R P C B D S N) (MV (MA mT mG mR mU mP mO mS mN) (BH 73 β))) (MA mT mG mR mU mP mO mS mN) := by
  rcases h.2.1 with rfl | rfl
  · exact J_all0 sb T G L O R P C B D S N β mT mG mR mU mP mO mS mN h w hw
  · exact J_all1 sb T G L O R P C B D S N β mT mG mR mU mP mO mS mN h w hw
theorem J_seat {X : AX} (sb ss : Nat) (T : TyT) (G : TyG) (L : TyL) (O : TyO) (R : TyR) (P : TyP) (C : TyC) (B D : TyB) (S N : TyS) (β : List TyBn) (mT : TyT) (mG : TyMG) (mR : TyMR) (mU : TyMU) (mP : TyMP) (mO : TyO) (mS : TyMS) (mN : TyMN) (h : RR sb ss T G L O R C B D S N β mT mG mR mU mP mS mN) (an : Int) (han : an = 0 ∨ an = 1) : JS X 0 0 89 132 [iv an] (CV (CA sb ss T G L O R P C B D S N) (MV (MA mT mG mR mU mP mO mS mN) (BH 73 β))) (MA mT mG mR mU mP mO mS mN) := by
  rcases h.2.1 with rfl | rfl
  · exact J_seat0 sb T G L O R P C B D S N β mT mG mR mU mP mO mS mN h an han
  · exact J_seat1 sb T G L O R P C B D S N β mT mG mR mU mP mO mS mN h an han
theorem J_guest {X : AX} (sb ss : Nat) (T : TyT) (G : TyG) (L : TyL) (O : TyO) (R : TyR) (P : TyP) (C : TyC) (B D : TyB) (S N : TyS) (β : List TyBn) (mT : TyT) (mG : TyMG) (mR : TyMR) (mU : TyMU) (mP : TyMP) (mO : TyO) (mS : TyMS) (mN : TyMN) (h : RR sb ss T G L O R C B D S N β mT mG mR mU mP mS mN) (k dt ag wd ey wo : Int) (hk : inR k) (hd : inR dt) (ha : inR ag) (hw : inR wd) (he : inR ey) (ho : inR wo) : JS X 0 0 80 105 [iv k, iv dt, iv ag, iv wd, iv ey, iv wo] (CV (CA sb ss T G L O R P C B D S N) (MV (MA mT mG mR mU mP mO mS mN) (BH 73 β))) (MA mT mG mR mU mP mO mS mN) := by
  rcases h.1 with rfl | rfl
  · exact J_guest0 ss T G L O R P C B D S N β mT mG mR mU mP mO mS mN h k dt ag wd ey wo hk hd ha hw he ho
  · exact J_guest1 ss T G L O R P C B D S N β mT mG mR mU mP mO mS mN h k dt ag wd ey wo hk hd ha hw he ho
theorem J_gone {X : AX} (sb ss : Nat) (T : TyT) (G : TyG) (L : TyL) (O : TyO) (R : TyR) (P : TyP) (C : TyC) (B D : TyB) (S N : TyS) (β : List TyBn) (mT : TyT) (mG : TyMG) (mR : TyMR) (mU : TyMU) (mP : TyMP) (mO : TyO) (mS : TyMS) (mN : TyMN) (h : RR sb ss T G L O R C B D S N β mT mG mR mU mP mS mN) (g v : Int) (hg : inR g) (hv : v = 0 ∨ v = 1) : JS X 0 0 81 107 [iv g, iv v] (CV (CA sb ss T G L O R P C B D S N) (MV (MA mT mG mR mU mP mO mS mN) (BH 73 β))) (MA mT mG mR mU mP mO mS mN) := by
  rcases h.1 with rfl | rfl
  · exact J_gone0 ss T G L O R P C B D S N β mT mG mR mU mP mO mS mN h g v hg hv
  · exact J_gone1 ss T G L O R P C B D S N β mT mG mR mU mP mO mS mN h g v hg hv
theorem J_rules {X : AX} (sb ss : Nat) (T : TyT) (G : TyG) (L : TyL) (O : TyO) (R : TyR) (P : TyP) (C : TyC) (B D : TyB) (S N : TyS) (β : List TyBn) (mT : TyT) (mG : TyMG) (mR : TyMR) (mU : TyMU) (mP : TyMP) (mO : TyO) (mS : TyMS) (mN : TyMN) (h : RR sb ss T G L O R C B D S N β mT mG mR mU mP mS mN)  : JS X 0 0 85 120 [] (CV (CA sb ss T G L O R P C B D S N) (MV (MA mT mG mR mU mP mO mS mN) (BH 73 β))) (MA mT mG mR mU mP mO mS mN) := by
  rcases h.1 with rfl | rfl
  · exact J_rules0 ss T G L O R P C B D S N β mT mG mR mU mP mO mS mN h 
  · exact J_rules1 ss T G L O R P C B D S N β mT mG mR mU mP mO mS mN h 
abbrev scr : AV := .inr (.inr (.inr 0))
abbrev Q1 : AQ := fun r _ => r = some (.inl 1)
theorem and_inR (a b : Int) : inR (bAnd a b) := ⟨Int32.le_toInt _, Int32.toInt_lt _⟩
set_option maxRecDepth 100000 in
theorem L_feed {X : AX} (sb ss : Nat) (T : TyT) (G : TyG) (L : TyL) (O : TyO) (R : TyR) (P : TyP) (C : TyC) (B D : TyB) (S N : TyS) (β : List TyBn) (mT : TyT) (mG : TyMG) (mR : TyMR) (mU : TyMU) (mP : TyMP) (mO : TyO) (mS : TyMS) (mN : TyMN) (h : RR sb ss T G L O R C B D S N β mT mG mR mU mP mS mN) (i : Int) (hi : 0 ≤ i ∧ i + 7 ≤ X.1) (hX : X.1 ≤ 3584) (hin : ∀ i, inR (X.2 i)) (kc ks : Nat) 
    (next : ∀ h', Inv h' → ∀ kc' ks', kc ≤ kc' + 4 → ks ≤ ks' + 2705 → AW X 12 kc' ks' 156 10 [scr, rf 0, rf 49, iv (i + 7)] [] h' Q1) : AW X 12 kc ks 156 22 [scr, rf 0, rf 49, iv i] [] (CV (CA sb ss T G L O R P C B D S N) (MV (MA mT mG mR mU mP mO mS mN) (BH 73 β))) Q1 := by
  refine aw_tree (d := 0) (I0_ok X 10) [] [10] rfl ?_
  repeat' (first | refine And.intro ?_ ?_ | (refine aImp_e0 ?_; intro _) | (refine aImp_n0 ?_; intro _) | (refine aImp_i ?_; intro _))
  all_goals (try (first | omega | exact bI_01 _ | exact bI_lo _ | exact bI_hi _ | exact bI_hi' _ | exact trivial | exact Or.inl rfl | exact Or.inr rfl | (exfalso; omega)))
  refine aw_cq (kc1 := 0) (ks1 := 0) (kc2 := kc) (ks2 := ks) (J_feed sb ss T G L O R P C B D S N β mT mG mR mU mP mO mS mN h (X.2 (i + 1)) (X.2 (i + 2)) (X.2 (i + 3)) (X.2 (i + 4)) (X.2 (i + 5)) ) rfl (by omega) (by omega) (fun r h' hh => ?_)
  obtain ⟨z, a, t, hz, rfl, rfl, hm⟩ := hh
  refine aw_tree (d := 0) (I0_ok X 10) [] [10] rfl ?_
  repeat' (first | refine And.intro ?_ ?_ | (refine aImp_e0 ?_; intro _) | (refine aImp_n0 ?_; intro _) | (refine aImp_i ?_; intro _))
  all_goals (try (first | omega | exact bI_01 _ | exact bI_lo _ | exact bI_hi _ | exact bI_hi' _ | exact trivial | exact Or.inl rfl | exact Or.inr rfl | (exfalso; omega)))
  refine aw_cq (kc1 := 0) (ks1 := 0) (kc2 := kc) (ks2 := ks) hm rfl (by omega) (by omega) (fun r h'' hh => ?_)
  obtain ⟨rfl, hI⟩ := hh
  refine aw_tree (d := 0) (I0_ok X 10) [] [10] rfl ?_
  refine ⟨⟨hz, hz⟩, aImp_i (fun _ => next h'' hI _ _ (by omega) (by omega)), aImp_i (fun q => absurd rfl q)⟩
set_option maxRecDepth 100000 in
theorem L_end {X : AX} (sb ss : Nat) (T : TyT) (G : TyG) (L : TyL) (O : TyO) (R : TyR) (P : TyP) (C : TyC) (B D : TyB) (S N : TyS) (β : List TyBn) (mT : TyT) (mG : TyMG) (mR : TyMR) (mU : TyMU) (mP : TyMP) (mO : TyO) (mS : TyMS) (mN : TyMN) (h : RR sb ss T G L O R C B D S N β mT mG mR mU mP mS mN) (i : Int) (hi : 0 ≤ i ∧ i + 7 ≤ X.1) (hX : X.1 ≤ 3584) (hin : ∀ i, inR (X.2 i)) (kc ks : Nat) 
    (next : ∀ h', Inv h' → ∀ kc' ks', kc ≤ kc' + 4 → ks ≤ ks' + 2705 → AW X 12 kc' ks' 156 10 [scr, rf 0, rf 49, iv (i + 7)] [] h' Q1) : AW X 12 kc ks 156 79 [scr, rf 0, rf 49, iv i] [] (CV (CA sb ss T G L O R P C B D S N) (MV (MA mT mG mR mU mP mO mS mN) (BH 73 β))) Q1 := by
  refine aw_tree (d := 0) (I0_ok X 10) [] [10] rfl ?_
  repeat' (first | refine And.intro ?_ ?_ | (refine aImp_e0 ?_; intro _) | (refine aImp_n0 ?_; intro _) | (refine aImp_i ?_; intro _))
  all_goals (try (first | omega | exact bI_01 _ | exact bI_lo _ | exact bI_hi _ | exact bI_hi' _ | exact trivial | exact Or.inl rfl | exact Or.inr rfl | (exfalso; omega)))
  refine aw_cq (kc1 := 0) (ks1 := 0) (kc2 := kc) (ks2 := ks) (J_end sb ss T G L O R P C B D S N β mT mG mR mU mP mO mS mN h (X.2 (i + 1)) (hin _)) rfl (by omega) (by omega) (fun r h' hh => ?_)
  obtain ⟨z, a, t, hz, rfl, rfl, hm⟩ := hh
  refine aw_tree (d := 0) (I0_ok X 10) [] [10] rfl ?_
  repeat' (first | refine And.intro ?_ ?_ | (refine aImp_e0 ?_; intro _) | (refine aImp_n0 ?_; intro _) | (refine aImp_i ?_; intro _))
  all_goals (try (first | omega | exact bI_01 _ | exact bI_lo _ | exact bI_hi _ | exact bI_hi' _ | exact trivial | exact Or.inl rfl | exact Or.inr rfl | (exfalso; omega)))
  refine aw_cq (kc1 := 0) (ks1 := 0) (kc2 := kc) (ks2 := ks) hm rfl (by omega) (by omega) (fun r h'' hh => ?_)
  obtain ⟨rfl, hI⟩ := hh
  refine aw_tree (d := 0) (I0_ok X 10) [] [10] rfl ?_
  refine ⟨⟨hz, hz⟩, aImp_i (fun _ => next h'' hI _ _ (by omega) (by omega)), aImp_i (fun q => absurd rfl q)⟩
set_option maxRecDepth 100000 in
theorem L_guest {X : AX} (sb ss : Nat) (T : TyT) (G : TyG) (L : TyL) (O : TyO) (R : TyR) (P : TyP) (C : TyC) (B D : TyB) (S N : TyS) (β : List TyBn) (mT : TyT) (mG : TyMG) (mR : TyMR) (mU : TyMU) (mP : TyMP) (mO : TyO) (mS : TyMS) (mN : TyMN) (h : RR sb ss T G L O R C B D S N β mT mG mR mU mP mS mN) (i : Int) (hi : 0 ≤ i ∧ i + 7 ≤ X.1) (hX : X.1 ≤ 3584) (hin : ∀ i, inR (X.2 i)) (kc ks : Nat) 
    (next : ∀ h', Inv h' → ∀ kc' ks', kc ≤ kc' + 4 → ks ≤ ks' + 2705 → AW X 12 kc' ks' 156 10 [scr, rf 0, rf 49, iv (i + 7)] [] h' Q1) : AW X 12 kc ks 156 96 [scr, rf 0, rf 49, iv i] [] (CV (CA sb ss T G L O R P C B D S N) (MV (MA mT mG mR mU mP mO mS mN) (BH 73 β))) Q1 := by
  refine aw_tree (d := 0) (I0_ok X 10) [] [10] rfl ?_
  repeat' (first | refine And.intro ?_ ?_ | (refine aImp_e0 ?_; intro _) | (refine aImp_n0 ?_; intro _) | (refine aImp_i ?_; intro _))
  all_goals (try (first | omega | exact bI_01 _ | exact bI_lo _ | exact bI_hi _ | exact bI_hi' _ | exact trivial | exact Or.inl rfl | exact Or.inr rfl | (exfalso; omega)))
  refine aw_cq (kc1 := 0) (ks1 := 0) (kc2 := kc) (ks2 := ks) (J_guest sb ss T G L O R P C B D S N β mT mG mR mU mP mO mS mN h (X.2 (i + 1)) (X.2 (i + 2)) (X.2 (i + 3)) (X.2 (i + 4)) (X.2 (i + 5)) (X.2 (i + 6)) (hin _) (hin _) (hin _) (hin _) (hin _) (hin _)) rfl (by omega) (by omega) (fun r h' hh => ?_)
  obtain ⟨z, a, t, hz, rfl, rfl, hm⟩ := hh
  refine aw_tree (d := 0) (I0_ok X 10) [] [10] rfl ?_
  repeat' (first | refine And.intro ?_ ?_ | (refine aImp_e0 ?_; intro _) | (refine aImp_n0 ?_; intro _) | (refine aImp_i ?_; intro _))
  all_goals (try (first | omega | exact bI_01 _ | exact bI_lo _ | exact bI_hi _ | exact bI_hi' _ | exact trivial | exact Or.inl rfl | exact Or.inr rfl | (exfalso; omega)))
  refine aw_cq (kc1 := 0) (ks1 := 0) (kc2 := kc) (ks2 := ks) hm rfl (by omega) (by omega) (fun r h'' hh => ?_)
  obtain ⟨rfl, hI⟩ := hh
  refine aw_tree (d := 0) (I0_ok X 10) [] [10] rfl ?_
  refine ⟨⟨hz, hz⟩, aImp_i (fun _ => next h'' hI _ _ (by omega) (by omega)), aImp_i (fun q => absurd rfl q)⟩
set_option maxRecDepth 100000 in
theorem L_gone {X : AX} (sb ss : Nat) (T : TyT) (G : TyG) (L : TyL) (O : TyO) (R : TyR) (P : TyP) (C : TyC) (B D : TyB) (S N : TyS) (β : List TyBn) (mT : TyT) (mG : TyMG) (mR : TyMR) (mU : TyMU) (mP : TyMP) (mO : TyO) (mS : TyMS) (mN : TyMN) (h : RR sb ss T G L O R C B D S N β mT mG mR mU mP mS mN) (i : Int) (hi : 0 ≤ i ∧ i + 7 ≤ X.1) (hX : X.1 ≤ 3584) (hin : ∀ i, inR (X.2 i)) (kc ks : Nat) 
    (next : ∀ h', Inv h' → ∀ kc' ks', kc ≤ kc' + 4 → ks ≤ ks' + 2705 → AW X 12 kc' ks' 156 10 [scr, rf 0, rf 49, iv (i + 7)] [] h' Q1) : AW X 12 kc ks 156 163 [scr, rf 0, rf 49, iv i] [] (CV (CA sb ss T G L O R P C B D S N) (MV (MA mT mG mR mU mP mO mS mN) (BH 73 β))) Q1 := by
  have hb1 := hin (i + 2)
  unfold inR at hb1
  by_cases hb : X.2 (i + 2) = 0
  · have hb0 := hb
    refine aw_tree (d := 0) (I0_ok X 10) [] [10] rfl ?_
    repeat' (first | refine And.intro ?_ ?_ | (refine aImp_e0 ?_; intro _) | (refine aImp_n0 ?_; intro _) | (refine aImp_i ?_; intro _))
    all_goals (try (first | omega | exact bI_01 _ | exact bI_lo _ | exact bI_hi _ | exact bI_hi' _ | exact trivial | exact Or.inl rfl | exact Or.inr rfl | (exfalso; omega)))
    refine aw_cq (kc1 := 0) (ks1 := 0) (kc2 := kc) (ks2 := ks) (J_gone sb ss T G L O R P C B D S N β mT mG mR mU mP mO mS mN h (X.2 (i + 1)) 0 (hin _) (Or.inl rfl)) rfl (by omega) (by omega) (fun r h' hh => ?_)
    obtain ⟨z, a, t, hz, rfl, rfl, hm⟩ := hh
    refine aw_tree (d := 0) (I0_ok X 10) [] [10] rfl ?_
    repeat' (first | refine And.intro ?_ ?_ | (refine aImp_e0 ?_; intro _) | (refine aImp_n0 ?_; intro _) | (refine aImp_i ?_; intro _))
    all_goals (try (first | omega | exact bI_01 _ | exact bI_lo _ | exact bI_hi _ | exact bI_hi' _ | exact trivial | exact Or.inl rfl | exact Or.inr rfl | (exfalso; omega)))
    refine aw_cq (kc1 := 0) (ks1 := 0) (kc2 := kc) (ks2 := ks) hm rfl (by omega) (by omega) (fun r h'' hh => ?_)
    obtain ⟨rfl, hI⟩ := hh
    refine aw_tree (d := 0) (I0_ok X 10) [] [10] rfl ?_
    refine ⟨⟨hz, hz⟩, aImp_i (fun _ => next h'' hI _ _ (by omega) (by omega)), aImp_i (fun q => absurd rfl q)⟩
  · have hb0 := hb
    refine aw_tree (d := 0) (I0_ok X 10) [] [10] rfl ?_
    repeat' (first | refine And.intro ?_ ?_ | (refine aImp_e0 ?_; intro _) | (refine aImp_n0 ?_; intro _) | (refine aImp_i ?_; intro _))
    all_goals (try (first | omega | exact bI_01 _ | exact bI_lo _ | exact bI_hi _ | exact bI_hi' _ | exact trivial | exact Or.inl rfl | exact Or.inr rfl | (exfalso; omega)))
    refine aw_cq (kc1 := 0) (ks1 := 0) (kc2 := kc) (ks2 := ks) (J_gone sb ss T G L O R P C B D S N β mT mG mR mU mP mO mS mN h (X.2 (i + 1)) 1 (hin _) (Or.inr rfl)) rfl (by omega) (by omega) (fun r h' hh => ?_)
    obtain ⟨z, a, t, hz, rfl, rfl, hm⟩ := hh
    refine aw_tree (d := 0) (I0_ok X 10) [] [10] rfl ?_
    repeat' (first | refine And.intro ?_ ?_ | (refine aImp_e0 ?_; intro _) | (refine aImp_n0 ?_; intro _) | (refine aImp_i ?_; intro _))
    all_goals (try (first | omega | exact bI_01 _ | exact bI_lo _ | exact bI_hi _ | exact bI_hi' _ | exact trivial | exact Or.inl rfl | exact Or.inr rfl | (exfalso; omega)))
    refine aw_cq (kc1 := 0) (ks1 := 0) (kc2 := kc) (ks2 := ks) hm rfl (by omega) (by omega) (fun r h'' hh => ?_)
    obtain ⟨rfl, hI⟩ := hh
    refine aw_tree (d := 0) (I0_ok X 10) [] [10] rfl ?_
    refine ⟨⟨hz, hz⟩, aImp_i (fun _ => next h'' hI _ _ (by omega) (by omega)), aImp_i (fun q => absurd rfl q)⟩
set_option maxRecDepth 100000 in
theorem L_bar {X : AX} (sb ss : Nat) (T : TyT) (G : TyG) (L : TyL) (O : TyO) (R : TyR) (P : TyP) (C : TyC) (B D : TyB) (S N : TyS) (β : List TyBn) (mT : TyT) (mG : TyMG) (mR : TyMR) (mU : TyMU) (mP : TyMP) (mO : TyO) (mS : TyMS) (mN : TyMN) (h : RR sb ss T G L O R C B D S N β mT mG mR mU mP mS mN) (i : Int) (hi : 0 ≤ i ∧ i + 7 ≤ X.1) (hX : X.1 ≤ 3584) (hin : ∀ i, inR (X.2 i)) (kc ks : Nat) 
    (next : ∀ h', Inv h' → ∀ kc' ks', kc ≤ kc' + 4 → ks ≤ ks' + 2705 → AW X 12 kc' ks' 156 10 [scr, rf 0, rf 49, iv (i + 7)] [] h' Q1) : AW X 12 kc ks 156 198 [scr, rf 0, rf 49, iv i] [] (CV (CA sb ss T G L O R P C B D S N) (MV (MA mT mG mR mU mP mO mS mN) (BH 73 β))) Q1 := by
  have hb1 := hin (i + 3)
  unfold inR at hb1
  by_cases hb : X.2 (i + 3) = 0
  · have hb0 := hb
    refine aw_tree (d := 0) (I0_ok X 10) [] [10] rfl ?_
    repeat' (first | refine And.intro ?_ ?_ | (refine aImp_e0 ?_; intro _) | (refine aImp_n0 ?_; intro _) | (refine aImp_i ?_; intro _))
    all_goals (try (first | omega | exact bI_01 _ | exact bI_lo _ | exact bI_hi _ | exact bI_hi' _ | exact trivial | exact Or.inl rfl | exact Or.inr rfl | (exfalso; omega)))
    refine aw_cq (kc1 := 0) (ks1 := 0) (kc2 := kc) (ks2 := ks) (J_bar sb ss T G L O R P C B D S N β mT mG mR mU mP mO mS mN h (X.2 (i + 1)) (X.2 (i + 2)) 0 (hin _) (hin _) (Or.inl rfl)) rfl (by omega) (by omega) (fun r h' hh => ?_)
    obtain ⟨z, a, t, hz, rfl, rfl, hm⟩ := hh
    refine aw_tree (d := 0) (I0_ok X 10) [] [10] rfl ?_
    repeat' (first | refine And.intro ?_ ?_ | (refine aImp_e0 ?_; intro _) | (refine aImp_n0 ?_; intro _) | (refine aImp_i ?_; intro _))
    all_goals (try (first | omega | exact bI_01 _ | exact bI_lo _ | exact bI_hi _ | exact bI_hi' _ | exact trivial | exact Or.inl rfl | exact Or.inr rfl | (exfalso; omega)))
    refine aw_cq (kc1 := 0) (ks1 := 0) (kc2 := kc) (ks2 := ks) hm rfl (by omega) (by omega) (fun r h'' hh => ?_)
    obtain ⟨rfl, hI⟩ := hh
    refine aw_tree (d := 0) (I0_ok X 10) [] [10] rfl ?_
    refine ⟨⟨hz, hz⟩, aImp_i (fun _ => next h'' hI _ _ (by omega) (by omega)), aImp_i (fun q => absurd rfl q)⟩
  · have hb0 := hb
    refine aw_tree (d := 0) (I0_ok X 10) [] [10] rfl ?_
    repeat' (first | refine And.intro ?_ ?_ | (refine aImp_e0 ?_; intro _) | (refine aImp_n0 ?_; intro _) | (refine aImp_i ?_; intro _))
    all_goals (try (first | omega | exact bI_01 _ | exact bI_lo _ | exact bI_hi _ | exact bI_hi' _ | exact trivial | exact Or.inl rfl | exact Or.inr rfl | (exfalso; omega)))
    refine aw_cq (kc1 := 0) (ks1 := 0) (kc2 := kc) (ks2 := ks) (J_bar sb ss T G L O R P C B D S N β mT mG mR mU mP mO mS mN h (X.2 (i + 1)) (X.2 (i + 2)) 1 (hin _) (hin _) (Or.inr rfl)) rfl (by omega) (by omega) (fun r h' hh => ?_)
    obtain ⟨z, a, t, hz, rfl, rfl, hm⟩ := hh
    refine aw_tree (d := 0) (I0_ok X 10) [] [10] rfl ?_
    repeat' (first | refine And.intro ?_ ?_ | (refine aImp_e0 ?_; intro _) | (refine aImp_n0 ?_; intro _) | (refine aImp_i ?_; intro _))
    all_goals (try (first | omega | exact bI_01 _ | exact bI_lo _ | exact bI_hi _ | exact bI_hi' _ | exact trivial | exact Or.inl rfl | exact Or.inr rfl | (exfalso; omega)))
    refine aw_cq (kc1 := 0) (ks1 := 0) (kc2 := kc) (ks2 := ks) hm rfl (by omega) (by omega) (fun r h'' hh => ?_)
    obtain ⟨rfl, hI⟩ := hh
    refine aw_tree (d := 0) (I0_ok X 10) [] [10] rfl ?_
    refine ⟨⟨hz, hz⟩, aImp_i (fun _ => next h'' hI _ _ (by omega) (by omega)), aImp_i (fun q => absurd rfl q)⟩
set_option maxRecDepth 100000 in
theorem L_row {X : AX} (sb ss : Nat) (T : TyT) (G : TyG) (L : TyL) (O : TyO) (R : TyR) (P : TyP) (C : TyC) (B D : TyB) (S N : TyS) (β : List TyBn) (mT : TyT) (mG : TyMG) (mR : TyMR) (mU : TyMU) (mP : TyMP) (mO : TyO) (mS : TyMS) (mN : TyMN) (h : RR sb ss T G L O R C B D S N β mT mG mR mU mP mS mN) (i : Int) (hi : 0 ≤ i ∧ i + 7 ≤ X.1) (hX : X.1 ≤ 3584) (hin : ∀ i, inR (X.2 i)) (kc ks : Nat) (hkc : 4 ≤ kc) (hks : 2705 ≤ ks) 
    (next : ∀ h', Inv h' → ∀ kc' ks', kc ≤ kc' + 4 → ks ≤ ks' + 2705 → AW X 12 kc' ks' 156 10 [scr, rf 0, rf 49, iv (i + 7)] [] h' Q1) : AW X 12 kc ks 156 243 [scr, rf 0, rf 49, iv i] [] (CV (CA sb ss T G L O R P C B D S N) (MV (MA mT mG mR mU mP mO mS mN) (BH 73 β))) Q1 := by
  refine aw_tree (d := 0) (I0_ok X 10) [] [10] rfl ?_
  repeat' (first | refine And.intro ?_ ?_ | (refine aImp_e0 ?_; intro _) | (refine aImp_n0 ?_; intro _) | (refine aImp_i ?_; intro _))
  all_goals (try (first | omega | exact bI_01 _ | exact bI_lo _ | exact bI_hi _ | exact bI_hi' _ | exact trivial | exact Or.inl rfl | exact Or.inr rfl | (exfalso; omega)))
  refine aw_cq (kc1 := 4) (ks1 := 2705) (kc2 := kc - 4) (ks2 := ks - 2705) (J_row sb ss T G L O R P C B D S N β mT mG mR mU mP mO mS mN h (X.2 (i + 1)) (X.2 (i + 2)) (X.2 (i + 3)) (hin _) (hin _) (hin _)) rfl (by omega) (by omega) (fun r h' hh => ?_)
  obtain ⟨z, a, t, hz, rfl, rfl, hm⟩ := hh
  refine aw_tree (d := 0) (I0_ok X 10) [] [10] rfl ?_
  repeat' (first | refine And.intro ?_ ?_ | (refine aImp_e0 ?_; intro _) | (refine aImp_n0 ?_; intro _) | (refine aImp_i ?_; intro _))
  all_goals (try (first | omega | exact bI_01 _ | exact bI_lo _ | exact bI_hi _ | exact bI_hi' _ | exact trivial | exact Or.inl rfl | exact Or.inr rfl | (exfalso; omega)))
  refine aw_cq (kc1 := 0) (ks1 := 0) (kc2 := kc - 4) (ks2 := ks - 2705) hm rfl (by omega) (by omega) (fun r h'' hh => ?_)
  obtain ⟨rfl, hI⟩ := hh
  refine aw_tree (d := 0) (I0_ok X 10) [] [10] rfl ?_
  refine ⟨⟨hz, hz⟩, aImp_i (fun _ => next h'' hI _ _ (by omega) (by omega)), aImp_i (fun q => absurd rfl q)⟩
set_option maxRecDepth 100000 in
theorem L_set {X : AX} (sb ss : Nat) (T : TyT) (G : TyG) (L : TyL) (O : TyO) (R : TyR) (P : TyP) (C : TyC) (B D : TyB) (S N : TyS) (β : List TyBn) (mT : TyT) (mG : TyMG) (mR : TyMR) (mU : TyMU) (mP : TyMP) (mO : TyO) (mS : TyMS) (mN : TyMN) (h : RR sb ss T G L O R C B D S N β mT mG mR mU mP mS mN) (i : Int) (hi : 0 ≤ i ∧ i + 7 ≤ X.1) (hX : X.1 ≤ 3584) (hin : ∀ i, inR (X.2 i)) (kc ks : Nat) 
    (next : ∀ h', Inv h' → ∀ kc' ks', kc ≤ kc' + 4 → ks ≤ ks' + 2705 → AW X 12 kc' ks' 156 10 [scr, rf 0, rf 49, iv (i + 7)] [] h' Q1) : AW X 12 kc ks 156 280 [scr, rf 0, rf 49, iv i] [] (CV (CA sb ss T G L O R P C B D S N) (MV (MA mT mG mR mU mP mO mS mN) (BH 73 β))) Q1 := by
  refine aw_tree (d := 0) (I0_ok X 10) [] [10] rfl ?_
  repeat' (first | refine And.intro ?_ ?_ | (refine aImp_e0 ?_; intro _) | (refine aImp_n0 ?_; intro _) | (refine aImp_i ?_; intro _))
  all_goals (try (first | omega | exact bI_01 _ | exact bI_lo _ | exact bI_hi _ | exact bI_hi' _ | exact trivial | exact Or.inl rfl | exact Or.inr rfl | (exfalso; omega)))
  refine aw_cq (kc1 := 0) (ks1 := 0) (kc2 := kc) (ks2 := ks) (J_set sb ss T G L O R P C B D S N β mT mG mR mU mP mO mS mN h (X.2 (i + 1)) (X.2 (i + 2)) (X.2 (i + 3)) (hin _) (hin _) (hin _)) rfl (by omega) (by omega) (fun r h' hh => ?_)
  obtain ⟨z, a, t, hz, rfl, rfl, hm⟩ := hh
  refine aw_tree (d := 0) (I0_ok X 10) [] [10] rfl ?_
  repeat' (first | refine And.intro ?_ ?_ | (refine aImp_e0 ?_; intro _) | (refine aImp_n0 ?_; intro _) | (refine aImp_i ?_; intro _))
  all_goals (try (first | omega | exact bI_01 _ | exact bI_lo _ | exact bI_hi _ | exact bI_hi' _ | exact trivial | exact Or.inl rfl | exact Or.inr rfl | (exfalso; omega)))
  refine aw_cq (kc1 := 0) (ks1 := 0) (kc2 := kc) (ks2 := ks) hm rfl (by omega) (by omega) (fun r h'' hh => ?_)
  obtain ⟨rfl, hI⟩ := hh
  refine aw_tree (d := 0) (I0_ok X 10) [] [10] rfl ?_
  refine ⟨⟨hz, hz⟩, aImp_i (fun _ => next h'' hI _ _ (by omega) (by omega)), aImp_i (fun q => absurd rfl q)⟩
set_option maxRecDepth 100000 in
theorem L_rules {X : AX} (sb ss : Nat) (T : TyT) (G : TyG) (L : TyL) (O : TyO) (R : TyR) (P : TyP) (C : TyC) (B D : TyB) (S N : TyS) (β : List TyBn) (mT : TyT) (mG : TyMG) (mR : TyMR) (mU : TyMU) (mP : TyMP) (mO : TyO) (mS : TyMS) (mN : TyMN) (h : RR sb ss T G L O R C B D S N β mT mG mR mU mP mS mN) (i : Int) (hi : 0 ≤ i ∧ i + 7 ≤ X.1) (hX : X.1 ≤ 3584) (hin : ∀ i, inR (X.2 i)) (kc ks : Nat) 
    (next : ∀ h', Inv h' → ∀ kc' ks', kc ≤ kc' + 4 → ks ≤ ks' + 2705 → AW X 12 kc' ks' 156 10 [scr, rf 0, rf 49, iv (i + 7)] [] h' Q1) : AW X 12 kc ks 156 317 [scr, rf 0, rf 49, iv i] [] (CV (CA sb ss T G L O R P C B D S N) (MV (MA mT mG mR mU mP mO mS mN) (BH 73 β))) Q1 := by
  refine aw_tree (d := 0) (I0_ok X 10) [] [10] rfl ?_
  repeat' (first | refine And.intro ?_ ?_ | (refine aImp_e0 ?_; intro _) | (refine aImp_n0 ?_; intro _) | (refine aImp_i ?_; intro _))
  all_goals (try (first | omega | exact bI_01 _ | exact bI_lo _ | exact bI_hi _ | exact bI_hi' _ | exact trivial | exact Or.inl rfl | exact Or.inr rfl | (exfalso; omega)))
  refine aw_cq (kc1 := 0) (ks1 := 0) (kc2 := kc) (ks2 := ks) (J_rules sb ss T G L O R P C B D S N β mT mG mR mU mP mO mS mN h  ) rfl (by omega) (by omega) (fun r h' hh => ?_)
  obtain ⟨z, a, t, hz, rfl, rfl, hm⟩ := hh
  refine aw_tree (d := 0) (I0_ok X 10) [] [10] rfl ?_
  repeat' (first | refine And.intro ?_ ?_ | (refine aImp_e0 ?_; intro _) | (refine aImp_n0 ?_; intro _) | (refine aImp_i ?_; intro _))
  all_goals (try (first | omega | exact bI_01 _ | exact bI_lo _ | exact bI_hi _ | exact bI_hi' _ | exact trivial | exact Or.inl rfl | exact Or.inr rfl | (exfalso; omega)))
  refine aw_cq (kc1 := 0) (ks1 := 0) (kc2 := kc) (ks2 := ks) hm rfl (by omega) (by omega) (fun r h'' hh => ?_)
  obtain ⟨rfl, hI⟩ := hh
  refine aw_tree (d := 0) (I0_ok X 10) [] [10] rfl ?_
  refine ⟨⟨hz, hz⟩, aImp_i (fun _ => next h'' hI _ _ (by omega) (by omega)), aImp_i (fun q => absurd rfl q)⟩
set_option maxRecDepth 100000 in
theorem L_fault {X : AX} (sb ss : Nat) (T : TyT) (G : TyG) (L : TyL) (O : TyO) (R : TyR) (P : TyP) (C : TyC) (B D : TyB) (S N : TyS) (β : List TyBn) (mT : TyT) (mG : TyMG) (mR : TyMR) (mU : TyMU) (mP : TyMP) (mO : TyO) (mS : TyMS) (mN : TyMN) (h : RR sb ss T G L O R C B D S N β mT mG mR mU mP mS mN) (i : Int) (hi : 0 ≤ i ∧ i + 7 ≤ X.1) (hX : X.1 ≤ 3584) (hin : ∀ i, inR (X.2 i)) (kc ks : Nat) 
    (next : ∀ h', Inv h' → ∀ kc' ks', kc ≤ kc' + 4 → ks ≤ ks' + 2705 → AW X 12 kc' ks' 156 10 [scr, rf 0, rf 49, iv (i + 7)] [] h' Q1) : AW X 12 kc ks 156 324 [scr, rf 0, rf 49, iv i] [] (CV (CA sb ss T G L O R P C B D S N) (MV (MA mT mG mR mU mP mO mS mN) (BH 73 β))) Q1 := by
  refine aw_tree (d := 0) (I0_ok X 10) [] [10] rfl ?_
  repeat' (first | refine And.intro ?_ ?_ | (refine aImp_e0 ?_; intro _) | (refine aImp_n0 ?_; intro _) | (refine aImp_i ?_; intro _))
  all_goals (try (first | omega | exact bI_01 _ | exact bI_lo _ | exact bI_hi _ | exact bI_hi' _ | exact trivial | exact Or.inl rfl | exact Or.inr rfl | (exfalso; omega)))
  refine aw_cq (kc1 := 0) (ks1 := 0) (kc2 := kc) (ks2 := ks) (J_fault sb ss T G L O R P C B D S N β mT mG mR mU mP mO mS mN h (X.2 (i + 1)) (hin _)) rfl (by omega) (by omega) (fun r h' hh => ?_)
  obtain ⟨z, a, t, hz, rfl, rfl, hm⟩ := hh
  refine aw_tree (d := 0) (I0_ok X 10) [] [10] rfl ?_
  repeat' (first | refine And.intro ?_ ?_ | (refine aImp_e0 ?_; intro _) | (refine aImp_n0 ?_; intro _) | (refine aImp_i ?_; intro _))
  all_goals (try (first | omega | exact bI_01 _ | exact bI_lo _ | exact bI_hi _ | exact bI_hi' _ | exact trivial | exact Or.inl rfl | exact Or.inr rfl | (exfalso; omega)))
  refine aw_cq (kc1 := 0) (ks1 := 0) (kc2 := kc) (ks2 := ks) hm rfl (by omega) (by omega) (fun r h'' hh => ?_)
  obtain ⟨rfl, hI⟩ := hh
  refine aw_tree (d := 0) (I0_ok X 10) [] [10] rfl ?_
  refine ⟨⟨hz, hz⟩, aImp_i (fun _ => next h'' hI _ _ (by omega) (by omega)), aImp_i (fun q => absurd rfl q)⟩
set_option maxRecDepth 100000 in
theorem L_rank {X : AX} (sb ss : Nat) (T : TyT) (G : TyG) (L : TyL) (O : TyO) (R : TyR) (P : TyP) (C : TyC) (B D : TyB) (S N : TyS) (β : List TyBn) (mT : TyT) (mG : TyMG) (mR : TyMR) (mU : TyMU) (mP : TyMP) (mO : TyO) (mS : TyMS) (mN : TyMN) (h : RR sb ss T G L O R C B D S N β mT mG mR mU mP mS mN) (i : Int) (hi : 0 ≤ i ∧ i + 7 ≤ X.1) (hX : X.1 ≤ 3584) (hin : ∀ i, inR (X.2 i)) (kc ks : Nat) 
    (next : ∀ h', Inv h' → ∀ kc' ks', kc ≤ kc' + 4 → ks ≤ ks' + 2705 → AW X 12 kc' ks' 156 10 [scr, rf 0, rf 49, iv (i + 7)] [] h' Q1) : AW X 12 kc ks 156 341 [scr, rf 0, rf 49, iv i] [] (CV (CA sb ss T G L O R P C B D S N) (MV (MA mT mG mR mU mP mO mS mN) (BH 73 β))) Q1 := by
  refine aw_tree (d := 0) (I0_ok X 10) [] [10] rfl ?_
  repeat' (first | refine And.intro ?_ ?_ | (refine aImp_e0 ?_; intro _) | (refine aImp_n0 ?_; intro _) | (refine aImp_i ?_; intro _))
  all_goals (try (first | omega | exact bI_01 _ | exact bI_lo _ | exact bI_hi _ | exact bI_hi' _ | exact trivial | exact Or.inl rfl | exact Or.inr rfl | (exfalso; omega)))
  refine aw_cq (kc1 := 0) (ks1 := 0) (kc2 := kc) (ks2 := ks) (J_rank sb ss T G L O R P C B D S N β mT mG mR mU mP mO mS mN h (X.2 (i + 1)) (hin _)) rfl (by omega) (by omega) (fun r h' hh => ?_)
  obtain ⟨z, a, t, hz, rfl, rfl, hm⟩ := hh
  refine aw_tree (d := 0) (I0_ok X 10) [] [10] rfl ?_
  repeat' (first | refine And.intro ?_ ?_ | (refine aImp_e0 ?_; intro _) | (refine aImp_n0 ?_; intro _) | (refine aImp_i ?_; intro _))
  all_goals (try (first | omega | exact bI_01 _ | exact bI_lo _ | exact bI_hi _ | exact bI_hi' _ | exact trivial | exact Or.inl rfl | exact Or.inr rfl | (exfalso; omega)))
  refine aw_cq (kc1 := 0) (ks1 := 0) (kc2 := kc) (ks2 := ks) hm rfl (by omega) (by omega) (fun r h'' hh => ?_)
  obtain ⟨rfl, hI⟩ := hh
  refine aw_tree (d := 0) (I0_ok X 10) [] [10] rfl ?_
  refine ⟨⟨hz, hz⟩, aImp_i (fun _ => next h'' hI _ _ (by omega) (by omega)), aImp_i (fun q => absurd rfl q)⟩
set_option maxRecDepth 100000 in
theorem L_ranked {X : AX} (sb ss : Nat) (T : TyT) (G : TyG) (L : TyL) (O : TyO) (R : TyR) (P : TyP) (C : TyC) (B D : TyB) (S N : TyS) (β : List TyBn) (mT : TyT) (mG : TyMG) (mR : TyMR) (mU : TyMU) (mP : TyMP) (mO : TyO) (mS : TyMS) (mN : TyMN) (h : RR sb ss T G L O R C B D S N β mT mG mR mU mP mS mN) (i : Int) (hi : 0 ≤ i ∧ i + 7 ≤ X.1) (hX : X.1 ≤ 3584) (hin : ∀ i, inR (X.2 i)) (kc ks : Nat) 
    (next : ∀ h', Inv h' → ∀ kc' ks', kc ≤ kc' + 4 → ks ≤ ks' + 2705 → AW X 12 kc' ks' 156 10 [scr, rf 0, rf 49, iv (i + 7)] [] h' Q1) : AW X 12 kc ks 156 358 [scr, rf 0, rf 49, iv i] [] (CV (CA sb ss T G L O R P C B D S N) (MV (MA mT mG mR mU mP mO mS mN) (BH 73 β))) Q1 := by
  refine aw_tree (d := 0) (I0_ok X 10) [] [10] rfl ?_
  repeat' (first | refine And.intro ?_ ?_ | (refine aImp_e0 ?_; intro _) | (refine aImp_n0 ?_; intro _) | (refine aImp_i ?_; intro _))
  all_goals (try (first | omega | exact bI_01 _ | exact bI_lo _ | exact bI_hi _ | exact bI_hi' _ | exact trivial | exact Or.inl rfl | exact Or.inr rfl | (exfalso; omega)))
  refine aw_cq (kc1 := 0) (ks1 := 0) (kc2 := kc) (ks2 := ks) (J_ranked sb ss T G L O R P C B D S N β mT mG mR mU mP mO mS mN h (X.2 (i + 1)) (hin _)) rfl (by omega) (by omega) (fun r h' hh => ?_)
  obtain ⟨z, a, t, hz, rfl, rfl, hm⟩ := hh
  refine aw_tree (d := 0) (I0_ok X 10) [] [10] rfl ?_
  repeat' (first | refine And.intro ?_ ?_ | (refine aImp_e0 ?_; intro _) | (refine aImp_n0 ?_; intro _) | (refine aImp_i ?_; intro _))
  all_goals (try (first | omega | exact bI_01 _ | exact bI_lo _ | exact bI_hi _ | exact bI_hi' _ | exact trivial | exact Or.inl rfl | exact Or.inr rfl | (exfalso; omega)))
  refine aw_cq (kc1 := 0) (ks1 := 0) (kc2 := kc) (ks2 := ks) hm rfl (by omega) (by omega) (fun r h'' hh => ?_)
  obtain ⟨rfl, hI⟩ := hh
  refine aw_tree (d := 0) (I0_ok X 10) [] [10] rfl ?_
  refine ⟨⟨hz, hz⟩, aImp_i (fun _ => next h'' hI _ _ (by omega) (by omega)), aImp_i (fun q => absurd rfl q)⟩
set_option maxRecDepth 100000 in
theorem L_seat {X : AX} (sb ss : Nat) (T : TyT) (G : TyG) (L : TyL) (O : TyO) (R : TyR) (P : TyP) (C : TyC) (B D : TyB) (S N : TyS) (β : List TyBn) (mT : TyT) (mG : TyMG) (mR : TyMR) (mU : TyMU) (mP : TyMP) (mO : TyO) (mS : TyMS) (mN : TyMN) (h : RR sb ss T G L O R C B D S N β mT mG mR mU mP mS mN) (i : Int) (hi : 0 ≤ i ∧ i + 7 ≤ X.1) (hX : X.1 ≤ 3584) (hin : ∀ i, inR (X.2 i)) (kc ks : Nat) 
    (next : ∀ h', Inv h' → ∀ kc' ks', kc ≤ kc' + 4 → ks ≤ ks' + 2705 → AW X 12 kc' ks' 156 10 [scr, rf 0, rf 49, iv (i + 7)] [] h' Q1) : AW X 12 kc ks 156 375 [scr, rf 0, rf 49, iv i] [] (CV (CA sb ss T G L O R P C B D S N) (MV (MA mT mG mR mU mP mO mS mN) (BH 73 β))) Q1 := by
  have hb1 := hin (i + 1)
  unfold inR at hb1
  by_cases hb : X.2 (i + 1) = 0
  · have hb0 := hb
    refine aw_tree (d := 0) (I0_ok X 10) [] [10] rfl ?_
    repeat' (first | refine And.intro ?_ ?_ | (refine aImp_e0 ?_; intro _) | (refine aImp_n0 ?_; intro _) | (refine aImp_i ?_; intro _))
    all_goals (try (first | omega | exact bI_01 _ | exact bI_lo _ | exact bI_hi _ | exact bI_hi' _ | exact trivial | exact Or.inl rfl | exact Or.inr rfl | (exfalso; omega)))
    refine aw_cq (kc1 := 0) (ks1 := 0) (kc2 := kc) (ks2 := ks) (J_seat sb ss T G L O R P C B D S N β mT mG mR mU mP mO mS mN h 0  (Or.inl rfl)) rfl (by omega) (by omega) (fun r h' hh => ?_)
    obtain ⟨z, a, t, hz, rfl, rfl, hm⟩ := hh
    refine aw_tree (d := 0) (I0_ok X 10) [] [10] rfl ?_
    repeat' (first | refine And.intro ?_ ?_ | (refine aImp_e0 ?_; intro _) | (refine aImp_n0 ?_; intro _) | (refine aImp_i ?_; intro _))
    all_goals (try (first | omega | exact bI_01 _ | exact bI_lo _ | exact bI_hi _ | exact bI_hi' _ | exact trivial | exact Or.inl rfl | exact Or.inr rfl | (exfalso; omega)))
    refine aw_cq (kc1 := 0) (ks1 := 0) (kc2 := kc) (ks2 := ks) hm rfl (by omega) (by omega) (fun r h'' hh => ?_)
    obtain ⟨rfl, hI⟩ := hh
    refine aw_tree (d := 0) (I0_ok X 10) [] [10] rfl ?_
    refine ⟨⟨hz, hz⟩, aImp_i (fun _ => next h'' hI _ _ (by omega) (by omega)), aImp_i (fun q => absurd rfl q)⟩
  · have hb0 := hb
    refine aw_tree (d := 0) (I0_ok X 10) [] [10] rfl ?_
    repeat' (first | refine And.intro ?_ ?_ | (refine aImp_e0 ?_; intro _) | (refine aImp_n0 ?_; intro _) | (refine aImp_i ?_; intro _))
    all_goals (try (first | omega | exact bI_01 _ | exact bI_lo _ | exact bI_hi _ | exact bI_hi' _ | exact trivial | exact Or.inl rfl | exact Or.inr rfl | (exfalso; omega)))
    refine aw_cq (kc1 := 0) (ks1 := 0) (kc2 := kc) (ks2 := ks) (J_seat sb ss T G L O R P C B D S N β mT mG mR mU mP mO mS mN h 1  (Or.inr rfl)) rfl (by omega) (by omega) (fun r h' hh => ?_)
    obtain ⟨z, a, t, hz, rfl, rfl, hm⟩ := hh
    refine aw_tree (d := 0) (I0_ok X 10) [] [10] rfl ?_
    repeat' (first | refine And.intro ?_ ?_ | (refine aImp_e0 ?_; intro _) | (refine aImp_n0 ?_; intro _) | (refine aImp_i ?_; intro _))
    all_goals (try (first | omega | exact bI_01 _ | exact bI_lo _ | exact bI_hi _ | exact bI_hi' _ | exact trivial | exact Or.inl rfl | exact Or.inr rfl | (exfalso; omega)))
    refine aw_cq (kc1 := 0) (ks1 := 0) (kc2 := kc) (ks2 := ks) hm rfl (by omega) (by omega) (fun r h'' hh => ?_)
    obtain ⟨rfl, hI⟩ := hh
    refine aw_tree (d := 0) (I0_ok X 10) [] [10] rfl ?_
    refine ⟨⟨hz, hz⟩, aImp_i (fun _ => next h'' hI _ _ (by omega) (by omega)), aImp_i (fun q => absurd rfl q)⟩
set_option maxRecDepth 100000 in
theorem L_moved {X : AX} (sb ss : Nat) (T : TyT) (G : TyG) (L : TyL) (O : TyO) (R : TyR) (P : TyP) (C : TyC) (B D : TyB) (S N : TyS) (β : List TyBn) (mT : TyT) (mG : TyMG) (mR : TyMR) (mU : TyMU) (mP : TyMP) (mO : TyO) (mS : TyMS) (mN : TyMN) (h : RR sb ss T G L O R C B D S N β mT mG mR mU mP mS mN) (i : Int) (hi : 0 ≤ i ∧ i + 7 ≤ X.1) (hX : X.1 ≤ 3584) (hin : ∀ i, inR (X.2 i)) (kc ks : Nat) 
    (next : ∀ h', Inv h' → ∀ kc' ks', kc ≤ kc' + 4 → ks ≤ ks' + 2705 → AW X 12 kc' ks' 156 10 [scr, rf 0, rf 49, iv (i + 7)] [] h' Q1) : AW X 12 kc ks 156 400 [scr, rf 0, rf 49, iv i] [] (CV (CA sb ss T G L O R P C B D S N) (MV (MA mT mG mR mU mP mO mS mN) (BH 73 β))) Q1 := by
  refine aw_tree (d := 0) (I0_ok X 10) [] [10] rfl ?_
  repeat' (first | refine And.intro ?_ ?_ | (refine aImp_e0 ?_; intro _) | (refine aImp_n0 ?_; intro _) | (refine aImp_i ?_; intro _))
  all_goals (try (first | omega | exact bI_01 _ | exact bI_lo _ | exact bI_hi _ | exact bI_hi' _ | exact trivial | exact Or.inl rfl | exact Or.inr rfl | (exfalso; omega)))
  refine aw_cq (kc1 := 0) (ks1 := 0) (kc2 := kc) (ks2 := ks) (J_moved sb ss T G L O R P C B D S N β mT mG mR mU mP mO mS mN h  ) rfl (by omega) (by omega) (fun r h' hh => ?_)
  obtain ⟨z, a, t, hz, rfl, rfl, hm⟩ := hh
  refine aw_tree (d := 0) (I0_ok X 10) [] [10] rfl ?_
  repeat' (first | refine And.intro ?_ ?_ | (refine aImp_e0 ?_; intro _) | (refine aImp_n0 ?_; intro _) | (refine aImp_i ?_; intro _))
  all_goals (try (first | omega | exact bI_01 _ | exact bI_lo _ | exact bI_hi _ | exact bI_hi' _ | exact trivial | exact Or.inl rfl | exact Or.inr rfl | (exfalso; omega)))
  refine aw_cq (kc1 := 0) (ks1 := 0) (kc2 := kc) (ks2 := ks) hm rfl (by omega) (by omega) (fun r h'' hh => ?_)
  obtain ⟨rfl, hI⟩ := hh
  refine aw_tree (d := 0) (I0_ok X 10) [] [10] rfl ?_
  refine ⟨⟨hz, hz⟩, aImp_i (fun _ => next h'' hI _ _ (by omega) (by omega)), aImp_i (fun q => absurd rfl q)⟩
set_option maxRecDepth 100000 in
theorem L_sits {X : AX} (sb ss : Nat) (T : TyT) (G : TyG) (L : TyL) (O : TyO) (R : TyR) (P : TyP) (C : TyC) (B D : TyB) (S N : TyS) (β : List TyBn) (mT : TyT) (mG : TyMG) (mR : TyMR) (mU : TyMU) (mP : TyMP) (mO : TyO) (mS : TyMS) (mN : TyMN) (h : RR sb ss T G L O R C B D S N β mT mG mR mU mP mS mN) (i : Int) (hi : 0 ≤ i ∧ i + 7 ≤ X.1) (hX : X.1 ≤ 3584) (hin : ∀ i, inR (X.2 i)) (kc ks : Nat) 
    (next : ∀ h', Inv h' → ∀ kc' ks', kc ≤ kc' + 4 → ks ≤ ks' + 2705 → AW X 12 kc' ks' 156 10 [scr, rf 0, rf 49, iv (i + 7)] [] h' Q1) : AW X 12 kc ks 156 407 [scr, rf 0, rf 49, iv i] [] (CV (CA sb ss T G L O R P C B D S N) (MV (MA mT mG mR mU mP mO mS mN) (BH 73 β))) Q1 := by
  refine aw_tree (d := 0) (I0_ok X 10) [] [10] rfl ?_
  repeat' (first | refine And.intro ?_ ?_ | (refine aImp_e0 ?_; intro _) | (refine aImp_n0 ?_; intro _) | (refine aImp_i ?_; intro _))
  all_goals (try (first | omega | exact bI_01 _ | exact bI_lo _ | exact bI_hi _ | exact bI_hi' _ | exact trivial | exact Or.inl rfl | exact Or.inr rfl | (exfalso; omega)))
  refine aw_cq (kc1 := 0) (ks1 := 0) (kc2 := kc) (ks2 := ks) (J_sits sb ss T G L O R P C B D S N β mT mG mR mU mP mO mS mN h (X.2 (i + 1)) (X.2 (i + 2)) (hin _) (hin _)) rfl (by omega) (by omega) (fun r h' hh => ?_)
  obtain ⟨z, a, t, hz, rfl, rfl, hm⟩ := hh
  refine aw_tree (d := 0) (I0_ok X 10) [] [10] rfl ?_
  repeat' (first | refine And.intro ?_ ?_ | (refine aImp_e0 ?_; intro _) | (refine aImp_n0 ?_; intro _) | (refine aImp_i ?_; intro _))
  all_goals (try (first | omega | exact bI_01 _ | exact bI_lo _ | exact bI_hi _ | exact bI_hi' _ | exact trivial | exact Or.inl rfl | exact Or.inr rfl | (exfalso; omega)))
  refine aw_cq (kc1 := 0) (ks1 := 0) (kc2 := kc) (ks2 := ks) hm rfl (by omega) (by omega) (fun r h'' hh => ?_)
  obtain ⟨rfl, hI⟩ := hh
  refine aw_tree (d := 0) (I0_ok X 10) [] [10] rfl ?_
  refine ⟨⟨hz, hz⟩, aImp_i (fun _ => next h'' hI _ _ (by omega) (by omega)), aImp_i (fun q => absurd rfl q)⟩
set_option maxRecDepth 100000 in
theorem L_at {X : AX} (sb ss : Nat) (T : TyT) (G : TyG) (L : TyL) (O : TyO) (R : TyR) (P : TyP) (C : TyC) (B D : TyB) (S N : TyS) (β : List TyBn) (mT : TyT) (mG : TyMG) (mR : TyMR) (mU : TyMU) (mP : TyMP) (mO : TyO) (mS : TyMS) (mN : TyMN) (h : RR sb ss T G L O R C B D S N β mT mG mR mU mP mS mN) (i : Int) (hi : 0 ≤ i ∧ i + 7 ≤ X.1) (hX : X.1 ≤ 3584) (hin : ∀ i, inR (X.2 i)) (kc ks : Nat) 
    (next : ∀ h', Inv h' → ∀ kc' ks', kc ≤ kc' + 4 → ks ≤ ks' + 2705 → AW X 12 kc' ks' 156 10 [scr, rf 0, rf 49, iv (i + 7)] [] h' Q1) : AW X 12 kc ks 156 434 [scr, rf 0, rf 49, iv i] [] (CV (CA sb ss T G L O R P C B D S N) (MV (MA mT mG mR mU mP mO mS mN) (BH 73 β))) Q1 := by
  refine aw_tree (d := 0) (I0_ok X 10) [] [10] rfl ?_
  repeat' (first | refine And.intro ?_ ?_ | (refine aImp_e0 ?_; intro _) | (refine aImp_n0 ?_; intro _) | (refine aImp_i ?_; intro _))
  all_goals (try (first | omega | exact bI_01 _ | exact bI_lo _ | exact bI_hi _ | exact bI_hi' _ | exact trivial | exact Or.inl rfl | exact Or.inr rfl | (exfalso; omega)))
  refine aw_cq (kc1 := 0) (ks1 := 0) (kc2 := kc) (ks2 := ks) (J_at sb ss T G L O R P C B D S N β mT mG mR mU mP mO mS mN h (X.2 (i + 1)) (X.2 (i + 2)) (hin _) (hin _)) rfl (by omega) (by omega) (fun r h' hh => ?_)
  obtain ⟨z, a, t, hz, rfl, rfl, hm⟩ := hh
  refine aw_tree (d := 0) (I0_ok X 10) [] [10] rfl ?_
  repeat' (first | refine And.intro ?_ ?_ | (refine aImp_e0 ?_; intro _) | (refine aImp_n0 ?_; intro _) | (refine aImp_i ?_; intro _))
  all_goals (try (first | omega | exact bI_01 _ | exact bI_lo _ | exact bI_hi _ | exact bI_hi' _ | exact trivial | exact Or.inl rfl | exact Or.inr rfl | (exfalso; omega)))
  refine aw_cq (kc1 := 0) (ks1 := 0) (kc2 := kc) (ks2 := ks) hm rfl (by omega) (by omega) (fun r h'' hh => ?_)
  obtain ⟨rfl, hI⟩ := hh
  refine aw_tree (d := 0) (I0_ok X 10) [] [10] rfl ?_
  refine ⟨⟨hz, hz⟩, aImp_i (fun _ => next h'' hI _ _ (by omega) (by omega)), aImp_i (fun q => absurd rfl q)⟩
set_option maxRecDepth 100000 in
theorem L_spare {X : AX} (sb ss : Nat) (T : TyT) (G : TyG) (L : TyL) (O : TyO) (R : TyR) (P : TyP) (C : TyC) (B D : TyB) (S N : TyS) (β : List TyBn) (mT : TyT) (mG : TyMG) (mR : TyMR) (mU : TyMU) (mP : TyMP) (mO : TyO) (mS : TyMS) (mN : TyMN) (h : RR sb ss T G L O R C B D S N β mT mG mR mU mP mS mN) (i : Int) (hi : 0 ≤ i ∧ i + 7 ≤ X.1) (hX : X.1 ≤ 3584) (hin : ∀ i, inR (X.2 i)) (kc ks : Nat) 
    (next : ∀ h', Inv h' → ∀ kc' ks', kc ≤ kc' + 4 → ks ≤ ks' + 2705 → AW X 12 kc' ks' 156 10 [scr, rf 0, rf 49, iv (i + 7)] [] h' Q1) : AW X 12 kc ks 156 461 [scr, rf 0, rf 49, iv i] [] (CV (CA sb ss T G L O R P C B D S N) (MV (MA mT mG mR mU mP mO mS mN) (BH 73 β))) Q1 := by
  refine aw_tree (d := 0) (I0_ok X 10) [] [10] rfl ?_
  repeat' (first | refine And.intro ?_ ?_ | (refine aImp_e0 ?_; intro _) | (refine aImp_n0 ?_; intro _) | (refine aImp_i ?_; intro _))
  all_goals (try (first | omega | exact bI_01 _ | exact bI_lo _ | exact bI_hi _ | exact bI_hi' _ | exact trivial | exact Or.inl rfl | exact Or.inr rfl | (exfalso; omega)))
  refine aw_cq (kc1 := 0) (ks1 := 0) (kc2 := kc) (ks2 := ks) (J_spare sb ss T G L O R P C B D S N β mT mG mR mU mP mO mS mN h (X.2 (i + 1)) (hin _)) rfl (by omega) (by omega) (fun r h' hh => ?_)
  obtain ⟨z, a, t, hz, rfl, rfl, hm⟩ := hh
  refine aw_tree (d := 0) (I0_ok X 10) [] [10] rfl ?_
  repeat' (first | refine And.intro ?_ ?_ | (refine aImp_e0 ?_; intro _) | (refine aImp_n0 ?_; intro _) | (refine aImp_i ?_; intro _))
  all_goals (try (first | omega | exact bI_01 _ | exact bI_lo _ | exact bI_hi _ | exact bI_hi' _ | exact trivial | exact Or.inl rfl | exact Or.inr rfl | (exfalso; omega)))
  refine aw_cq (kc1 := 0) (ks1 := 0) (kc2 := kc) (ks2 := ks) hm rfl (by omega) (by omega) (fun r h'' hh => ?_)
  obtain ⟨rfl, hI⟩ := hh
  refine aw_tree (d := 0) (I0_ok X 10) [] [10] rfl ?_
  refine ⟨⟨hz, hz⟩, aImp_i (fun _ => next h'' hI _ _ (by omega) (by omega)), aImp_i (fun q => absurd rfl q)⟩
set_option maxRecDepth 100000 in
theorem L_hidden {X : AX} (sb ss : Nat) (T : TyT) (G : TyG) (L : TyL) (O : TyO) (R : TyR) (P : TyP) (C : TyC) (B D : TyB) (S N : TyS) (β : List TyBn) (mT : TyT) (mG : TyMG) (mR : TyMR) (mU : TyMU) (mP : TyMP) (mO : TyO) (mS : TyMS) (mN : TyMN) (h : RR sb ss T G L O R C B D S N β mT mG mR mU mP mS mN) (i : Int) (hi : 0 ≤ i ∧ i + 7 ≤ X.1) (hX : X.1 ≤ 3584) (hin : ∀ i, inR (X.2 i)) (kc ks : Nat) 
    (next : ∀ h', Inv h' → ∀ kc' ks', kc ≤ kc' + 4 → ks ≤ ks' + 2705 → AW X 12 kc' ks' 156 10 [scr, rf 0, rf 49, iv (i + 7)] [] h' Q1) : AW X 12 kc ks 156 478 [scr, rf 0, rf 49, iv i] [] (CV (CA sb ss T G L O R P C B D S N) (MV (MA mT mG mR mU mP mO mS mN) (BH 73 β))) Q1 := by
  refine aw_tree (d := 0) (I0_ok X 10) [] [10] rfl ?_
  repeat' (first | refine And.intro ?_ ?_ | (refine aImp_e0 ?_; intro _) | (refine aImp_n0 ?_; intro _) | (refine aImp_i ?_; intro _))
  all_goals (try (first | omega | exact bI_01 _ | exact bI_lo _ | exact bI_hi _ | exact bI_hi' _ | exact trivial | exact Or.inl rfl | exact Or.inr rfl | (exfalso; omega)))
  refine aw_cq (kc1 := 0) (ks1 := 0) (kc2 := kc) (ks2 := ks) (J_hidden sb ss T G L O R P C B D S N β mT mG mR mU mP mO mS mN h (X.2 (i + 1)) (hin _)) rfl (by omega) (by omega) (fun r h' hh => ?_)
  obtain ⟨z, a, t, hz, rfl, rfl, hm⟩ := hh
  refine aw_tree (d := 0) (I0_ok X 10) [] [10] rfl ?_
  repeat' (first | refine And.intro ?_ ?_ | (refine aImp_e0 ?_; intro _) | (refine aImp_n0 ?_; intro _) | (refine aImp_i ?_; intro _))
  all_goals (try (first | omega | exact bI_01 _ | exact bI_lo _ | exact bI_hi _ | exact bI_hi' _ | exact trivial | exact Or.inl rfl | exact Or.inr rfl | (exfalso; omega)))
  refine aw_cq (kc1 := 0) (ks1 := 0) (kc2 := kc) (ks2 := ks) hm rfl (by omega) (by omega) (fun r h'' hh => ?_)
  obtain ⟨rfl, hI⟩ := hh
  refine aw_tree (d := 0) (I0_ok X 10) [] [10] rfl ?_
  refine ⟨⟨hz, hz⟩, aImp_i (fun _ => next h'' hI _ _ (by omega) (by omega)), aImp_i (fun q => absurd rfl q)⟩
set_option maxRecDepth 100000 in
theorem L_hider {X : AX} (sb ss : Nat) (T : TyT) (G : TyG) (L : TyL) (O : TyO) (R : TyR) (P : TyP) (C : TyC) (B D : TyB) (S N : TyS) (β : List TyBn) (mT : TyT) (mG : TyMG) (mR : TyMR) (mU : TyMU) (mP : TyMP) (mO : TyO) (mS : TyMS) (mN : TyMN) (h : RR sb ss T G L O R C B D S N β mT mG mR mU mP mS mN) (i : Int) (hi : 0 ≤ i ∧ i + 7 ≤ X.1) (hX : X.1 ≤ 3584) (hin : ∀ i, inR (X.2 i)) (kc ks : Nat) 
    (next : ∀ h', Inv h' → ∀ kc' ks', kc ≤ kc' + 4 → ks ≤ ks' + 2705 → AW X 12 kc' ks' 156 10 [scr, rf 0, rf 49, iv (i + 7)] [] h' Q1) : AW X 12 kc ks 156 495 [scr, rf 0, rf 49, iv i] [] (CV (CA sb ss T G L O R P C B D S N) (MV (MA mT mG mR mU mP mO mS mN) (BH 73 β))) Q1 := by
  refine aw_tree (d := 0) (I0_ok X 10) [] [10] rfl ?_
  repeat' (first | refine And.intro ?_ ?_ | (refine aImp_e0 ?_; intro _) | (refine aImp_n0 ?_; intro _) | (refine aImp_i ?_; intro _))
  all_goals (try (first | omega | exact bI_01 _ | exact bI_lo _ | exact bI_hi _ | exact bI_hi' _ | exact trivial | exact Or.inl rfl | exact Or.inr rfl | (exfalso; omega)))
  refine aw_cq (kc1 := 0) (ks1 := 0) (kc2 := kc) (ks2 := ks) (J_hider sb ss T G L O R P C B D S N β mT mG mR mU mP mO mS mN h (X.2 (i + 1)) (X.2 (i + 2)) (hin _) (hin _)) rfl (by omega) (by omega) (fun r h' hh => ?_)
  obtain ⟨z, a, t, hz, rfl, rfl, hm⟩ := hh
  refine aw_tree (d := 0) (I0_ok X 10) [] [10] rfl ?_
  repeat' (first | refine And.intro ?_ ?_ | (refine aImp_e0 ?_; intro _) | (refine aImp_n0 ?_; intro _) | (refine aImp_i ?_; intro _))
  all_goals (try (first | omega | exact bI_01 _ | exact bI_lo _ | exact bI_hi _ | exact bI_hi' _ | exact trivial | exact Or.inl rfl | exact Or.inr rfl | (exfalso; omega)))
  refine aw_cq (kc1 := 0) (ks1 := 0) (kc2 := kc) (ks2 := ks) hm rfl (by omega) (by omega) (fun r h'' hh => ?_)
  obtain ⟨rfl, hI⟩ := hh
  refine aw_tree (d := 0) (I0_ok X 10) [] [10] rfl ?_
  refine ⟨⟨hz, hz⟩, aImp_i (fun _ => next h'' hI _ _ (by omega) (by omega)), aImp_i (fun q => absurd rfl q)⟩
set_option maxRecDepth 100000 in
theorem L_stage {X : AX} (sb ss : Nat) (T : TyT) (G : TyG) (L : TyL) (O : TyO) (R : TyR) (P : TyP) (C : TyC) (B D : TyB) (S N : TyS) (β : List TyBn) (mT : TyT) (mG : TyMG) (mR : TyMR) (mU : TyMU) (mP : TyMP) (mO : TyO) (mS : TyMS) (mN : TyMN) (h : RR sb ss T G L O R C B D S N β mT mG mR mU mP mS mN) (i : Int) (hi : 0 ≤ i ∧ i + 7 ≤ X.1) (hX : X.1 ≤ 3584) (hin : ∀ i, inR (X.2 i)) (kc ks : Nat) 
    (next : ∀ h', Inv h' → ∀ kc' ks', kc ≤ kc' + 4 → ks ≤ ks' + 2705 → AW X 12 kc' ks' 156 10 [scr, rf 0, rf 49, iv (i + 7)] [] h' Q1) : AW X 12 kc ks 156 522 [scr, rf 0, rf 49, iv i] [] (CV (CA sb ss T G L O R P C B D S N) (MV (MA mT mG mR mU mP mO mS mN) (BH 73 β))) Q1 := by
  refine aw_tree (d := 0) (I0_ok X 10) [] [10] rfl ?_
  repeat' (first | refine And.intro ?_ ?_ | (refine aImp_e0 ?_; intro _) | (refine aImp_n0 ?_; intro _) | (refine aImp_i ?_; intro _))
  all_goals (try (first | omega | exact bI_01 _ | exact bI_lo _ | exact bI_hi _ | exact bI_hi' _ | exact trivial | exact Or.inl rfl | exact Or.inr rfl | (exfalso; omega)))
  refine aw_cq (kc1 := 0) (ks1 := 0) (kc2 := kc) (ks2 := ks) (J_stage sb ss T G L O R P C B D S N β mT mG mR mU mP mO mS mN h (X.2 (i + 1)) (hin _)) rfl (by omega) (by omega) (fun r h' hh => ?_)
  obtain ⟨z, a, t, hz, rfl, rfl, hm⟩ := hh
  refine aw_tree (d := 0) (I0_ok X 10) [] [10] rfl ?_
  repeat' (first | refine And.intro ?_ ?_ | (refine aImp_e0 ?_; intro _) | (refine aImp_n0 ?_; intro _) | (refine aImp_i ?_; intro _))
  all_goals (try (first | omega | exact bI_01 _ | exact bI_lo _ | exact bI_hi _ | exact bI_hi' _ | exact trivial | exact Or.inl rfl | exact Or.inr rfl | (exfalso; omega)))
  refine aw_cq (kc1 := 0) (ks1 := 0) (kc2 := kc) (ks2 := ks) hm rfl (by omega) (by omega) (fun r h'' hh => ?_)
  obtain ⟨rfl, hI⟩ := hh
  refine aw_tree (d := 0) (I0_ok X 10) [] [10] rfl ?_
  refine ⟨⟨hz, hz⟩, aImp_i (fun _ => next h'' hI _ _ (by omega) (by omega)), aImp_i (fun q => absurd rfl q)⟩
set_option maxRecDepth 100000 in
theorem L_morning {X : AX} (sb ss : Nat) (T : TyT) (G : TyG) (L : TyL) (O : TyO) (R : TyR) (P : TyP) (C : TyC) (B D : TyB) (S N : TyS) (β : List TyBn) (mT : TyT) (mG : TyMG) (mR : TyMR) (mU : TyMU) (mP : TyMP) (mO : TyO) (mS : TyMS) (mN : TyMN) (h : RR sb ss T G L O R C B D S N β mT mG mR mU mP mS mN) (i : Int) (hi : 0 ≤ i ∧ i + 7 ≤ X.1) (hX : X.1 ≤ 3584) (hin : ∀ i, inR (X.2 i)) (kc ks : Nat) 
    (next : ∀ h', Inv h' → ∀ kc' ks', kc ≤ kc' + 4 → ks ≤ ks' + 2705 → AW X 12 kc' ks' 156 10 [scr, rf 0, rf 49, iv (i + 7)] [] h' Q1) : AW X 12 kc ks 156 539 [scr, rf 0, rf 49, iv i] [] (CV (CA sb ss T G L O R P C B D S N) (MV (MA mT mG mR mU mP mO mS mN) (BH 73 β))) Q1 := by
  refine aw_tree (d := 0) (I0_ok X 10) [] [10] rfl ?_
  repeat' (first | refine And.intro ?_ ?_ | (refine aImp_e0 ?_; intro _) | (refine aImp_n0 ?_; intro _) | (refine aImp_i ?_; intro _))
  all_goals (try (first | omega | exact bI_01 _ | exact bI_lo _ | exact bI_hi _ | exact bI_hi' _ | exact trivial | exact Or.inl rfl | exact Or.inr rfl | (exfalso; omega)))
  refine aw_cq (kc1 := 0) (ks1 := 0) (kc2 := kc) (ks2 := ks) (J_morning sb ss T G L O R P C B D S N β mT mG mR mU mP mO mS mN h (X.2 (i + 1)) (X.2 (i + 2)) (hin _) (hin _)) rfl (by omega) (by omega) (fun r h' hh => ?_)
  obtain ⟨z, a, t, hz, rfl, rfl, hm⟩ := hh
  refine aw_tree (d := 0) (I0_ok X 10) [] [10] rfl ?_
  repeat' (first | refine And.intro ?_ ?_ | (refine aImp_e0 ?_; intro _) | (refine aImp_n0 ?_; intro _) | (refine aImp_i ?_; intro _))
  all_goals (try (first | omega | exact bI_01 _ | exact bI_lo _ | exact bI_hi _ | exact bI_hi' _ | exact trivial | exact Or.inl rfl | exact Or.inr rfl | (exfalso; omega)))
  refine aw_cq (kc1 := 0) (ks1 := 0) (kc2 := kc) (ks2 := ks) hm rfl (by omega) (by omega) (fun r h'' hh => ?_)
  obtain ⟨rfl, hI⟩ := hh
  refine aw_tree (d := 0) (I0_ok X 10) [] [10] rfl ?_
  refine ⟨⟨hz, hz⟩, aImp_i (fun _ => next h'' hI _ _ (by omega) (by omega)), aImp_i (fun q => absurd rfl q)⟩
set_option maxRecDepth 100000 in
theorem L_comes {X : AX} (sb ss : Nat) (T : TyT) (G : TyG) (L : TyL) (O : TyO) (R : TyR) (P : TyP) (C : TyC) (B D : TyB) (S N : TyS) (β : List TyBn) (mT : TyT) (mG : TyMG) (mR : TyMR) (mU : TyMU) (mP : TyMP) (mO : TyO) (mS : TyMS) (mN : TyMN) (h : RR sb ss T G L O R C B D S N β mT mG mR mU mP mS mN) (i : Int) (hi : 0 ≤ i ∧ i + 7 ≤ X.1) (hX : X.1 ≤ 3584) (hin : ∀ i, inR (X.2 i)) (kc ks : Nat) 
    (next : ∀ h', Inv h' → ∀ kc' ks', kc ≤ kc' + 4 → ks ≤ ks' + 2705 → AW X 12 kc' ks' 156 10 [scr, rf 0, rf 49, iv (i + 7)] [] h' Q1) : AW X 12 kc ks 156 566 [scr, rf 0, rf 49, iv i] [] (CV (CA sb ss T G L O R P C B D S N) (MV (MA mT mG mR mU mP mO mS mN) (BH 73 β))) Q1 := by
  refine aw_tree (d := 0) (I0_ok X 10) [] [10] rfl ?_
  repeat' (first | refine And.intro ?_ ?_ | (refine aImp_e0 ?_; intro _) | (refine aImp_n0 ?_; intro _) | (refine aImp_i ?_; intro _))
  all_goals (try (first | omega | exact bI_01 _ | exact bI_lo _ | exact bI_hi _ | exact bI_hi' _ | exact trivial | exact Or.inl rfl | exact Or.inr rfl | (exfalso; omega)))
  refine aw_cq (kc1 := 0) (ks1 := 0) (kc2 := kc) (ks2 := ks) (J_comes sb ss T G L O R P C B D S N β mT mG mR mU mP mO mS mN h (X.2 (i + 1)) (X.2 (i + 2)) (hin _) (hin _)) rfl (by omega) (by omega) (fun r h' hh => ?_)
  obtain ⟨z, a, t, hz, rfl, rfl, hm⟩ := hh
  refine aw_tree (d := 0) (I0_ok X 10) [] [10] rfl ?_
  repeat' (first | refine And.intro ?_ ?_ | (refine aImp_e0 ?_; intro _) | (refine aImp_n0 ?_; intro _) | (refine aImp_i ?_; intro _))
  all_goals (try (first | omega | exact bI_01 _ | exact bI_lo _ | exact bI_hi _ | exact bI_hi' _ | exact trivial | exact Or.inl rfl | exact Or.inr rfl | (exfalso; omega)))
  refine aw_cq (kc1 := 0) (ks1 := 0) (kc2 := kc) (ks2 := ks) hm rfl (by omega) (by omega) (fun r h'' hh => ?_)
  obtain ⟨rfl, hI⟩ := hh
  refine aw_tree (d := 0) (I0_ok X 10) [] [10] rfl ?_
  refine ⟨⟨hz, hz⟩, aImp_i (fun _ => next h'' hI _ _ (by omega) (by omega)), aImp_i (fun q => absurd rfl q)⟩
set_option maxRecDepth 100000 in
theorem L_all {X : AX} (sb ss : Nat) (T : TyT) (G : TyG) (L : TyL) (O : TyO) (R : TyR) (P : TyP) (C : TyC) (B D : TyB) (S N : TyS) (β : List TyBn) (mT : TyT) (mG : TyMG) (mR : TyMR) (mU : TyMU) (mP : TyMP) (mO : TyO) (mS : TyMS) (mN : TyMN) (h : RR sb ss T G L O R C B D S N β mT mG mR mU mP mS mN) (i : Int) (hi : 0 ≤ i ∧ i + 7 ≤ X.1) (hX : X.1 ≤ 3584) (hin : ∀ i, inR (X.2 i)) (kc ks : Nat) 
    (next : ∀ h', Inv h' → ∀ kc' ks', kc ≤ kc' + 4 → ks ≤ ks' + 2705 → AW X 12 kc' ks' 156 10 [scr, rf 0, rf 49, iv (i + 7)] [] h' Q1) : AW X 12 kc ks 156 593 [scr, rf 0, rf 49, iv i] [] (CV (CA sb ss T G L O R P C B D S N) (MV (MA mT mG mR mU mP mO mS mN) (BH 73 β))) Q1 := by
  refine aw_tree (d := 0) (I0_ok X 10) [] [10] rfl ?_
  repeat' (first | refine And.intro ?_ ?_ | (refine aImp_e0 ?_; intro _) | (refine aImp_n0 ?_; intro _) | (refine aImp_i ?_; intro _))
  all_goals (try (first | omega | exact bI_01 _ | exact bI_lo _ | exact bI_hi _ | exact bI_hi' _ | exact trivial | exact Or.inl rfl | exact Or.inr rfl | (exfalso; omega)))
  refine aw_cq (kc1 := 0) (ks1 := 0) (kc2 := kc) (ks2 := ks) (J_all sb ss T G L O R P C B D S N β mT mG mR mU mP mO mS mN h (X.2 (i + 1)) (hin _)) rfl (by omega) (by omega) (fun r h' hh => ?_)
  obtain ⟨z, a, t, hz, rfl, rfl, hm⟩ := hh
  refine aw_tree (d := 0) (I0_ok X 10) [] [10] rfl ?_
  repeat' (first | refine And.intro ?_ ?_ | (refine aImp_e0 ?_; intro _) | (refine aImp_n0 ?_; intro _) | (refine aImp_i ?_; intro _))
  all_goals (try (first | omega | exact bI_01 _ | exact bI_lo _ | exact bI_hi _ | exact bI_hi' _ | exact trivial | exact Or.inl rfl | exact Or.inr rfl | (exfalso; omega)))
  refine aw_cq (kc1 := 0) (ks1 := 0) (kc2 := kc) (ks2 := ks) hm rfl (by omega) (by omega) (fun r h'' hh => ?_)
  obtain ⟨rfl, hI⟩ := hh
  refine aw_tree (d := 0) (I0_ok X 10) [] [10] rfl ?_
  refine ⟨⟨hz, hz⟩, aImp_i (fun _ => next h'' hI _ _ (by omega) (by omega)), aImp_i (fun q => absurd rfl q)⟩

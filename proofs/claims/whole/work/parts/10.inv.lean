/-! ===== what an instruction's evaluation says of the state before it ===== -/
section INV
variable {X : AX} {f : Int → Int → Int} {g : Int → Int} {v : AV} {i dn : Nat} {n lo hi : Int} {o : Option AV} {ls st ls' st' : List AV} {h h' : AH} {kc ks kc' ks' : Nat} {C : Option Prop} {t : Option Nat} {aux : List Nat} {c : ClassFile.Cond} {ps : Array (Int × Int)}
theorem sPush_inv (q : sPush v ls st h kc ks = some (C, t, ls', st', h', kc', ks')) : C = none ∧ t = none ∧ ls' = ls ∧ st' = v :: st ∧ h' = h ∧ kc' = kc ∧ ks' = ks := by
  simp only [sPush, Option.some.injEq, Prod.mk.injEq] at q
  obtain ⟨rfl, rfl, rfl, rfl, rfl, rfl, rfl⟩ := q
  exact ⟨rfl, rfl, rfl, rfl, rfl, rfl, rfl⟩
theorem sLoadI_inv (q : sLoadI o ls st h kc ks = some (C, t, ls', st', h', kc', ks')) : ∃ z, o = some (.inl z) ∧ t = none ∧ ls' = ls ∧ st' = .inl z :: st ∧ h' = h ∧ kc' = kc ∧ ks' = ks := by
  unfold sLoadI at q
  split at q
  · simp only [Option.some.injEq, Prod.mk.injEq] at q
    obtain ⟨rfl, rfl, rfl, rfl, rfl, rfl, rfl⟩ := q
    exact ⟨_, rfl, rfl, rfl, rfl, rfl, rfl, rfl⟩
  · cases q
theorem sLoadL_inv (q : sLoadL o ls st h kc ks = some (C, t, ls', st', h', kc', ks')) : ∃ z, o = some (.inr (.inl z)) ∧ t = none ∧ ls' = ls ∧ st' = .inr (.inl z) :: st ∧ h' = h ∧ kc' = kc ∧ ks' = ks := by
  unfold sLoadL at q
  split at q
  · simp only [Option.some.injEq, Prod.mk.injEq] at q
    obtain ⟨rfl, rfl, rfl, rfl, rfl, rfl, rfl⟩ := q
    exact ⟨_, rfl, rfl, rfl, rfl, rfl, rfl, rfl⟩
  · cases q
theorem sLoadA_inv (q : sLoadA o ls st h kc ks = some (C, t, ls', st', h', kc', ks')) : ∃ v, o = some v ∧ v ≠ jk ∧ ((∃ r, v = .inr (.inr (.inl r))) ∨ ∃ j, j < 900 ∧ v = .inr (.inr (.inr j))) ∧ t = none ∧ ls' = ls ∧ st' = v :: st ∧ h' = h ∧ kc' = kc ∧ ks' = ks := by
  unfold sLoadA at q
  split at q
  · simp only [Option.some.injEq, Prod.mk.injEq] at q
    obtain ⟨rfl, rfl, rfl, rfl, rfl, rfl, rfl⟩ := q
    exact ⟨_, rfl, by simp [jk], Or.inl ⟨_, rfl⟩, rfl, rfl, rfl, rfl, rfl, rfl⟩
  · rename_i j
    cases hb : Nat.blt j 900 with
    | false => rw [hb] at q; cases q
    | true =>
      rw [hb] at q
      simp only [Option.some.injEq, Prod.mk.injEq] at q
      obtain ⟨rfl, rfl, rfl, rfl, rfl, rfl, rfl⟩ := q
      have hj : j < 900 := by simpa using hb
      exact ⟨_, rfl, by simp [jk]; omega, Or.inr ⟨j, hj, rfl⟩, rfl, rfl, rfl, rfl, rfl, rfl⟩
  · cases q
theorem sStoreI_inv (q : sStoreI i ls st h kc ks = some (C, t, ls', st', h', kc', ks')) : ∃ z r, st = .inl z :: r ∧ aStok ls i = true ∧ t = none ∧ ls' = ls.set i (.inl z) ∧ st' = r ∧ h' = h ∧ kc' = kc ∧ ks' = ks := by
  unfold sStoreI at q
  split at q
  · cases hb : aStok ls i with
    | false => rw [hb] at q; cases q
    | true =>
      rw [hb] at q
      simp only [Option.some.injEq, Prod.mk.injEq] at q
      obtain ⟨rfl, rfl, rfl, rfl, rfl, rfl, rfl⟩ := q
      exact ⟨_, _, rfl, rfl, rfl, rfl, rfl, rfl, rfl, rfl⟩
  · cases q
theorem sStoreA_inv (q : sStoreA i ls st h kc ks = some (C, t, ls', st', h', kc', ks')) : ∃ z r, st = .inr (.inr (.inl z)) :: r ∧ aStok ls i = true ∧ t = none ∧ ls' = ls.set i (.inr (.inr (.inl z))) ∧ st' = r ∧ h' = h ∧ kc' = kc ∧ ks' = ks := by
  unfold sStoreA at q
  split at q
  · cases hb : aStok ls i with
    | false => rw [hb] at q; cases q
    | true =>
      rw [hb] at q
      simp only [Option.some.injEq, Prod.mk.injEq] at q
      obtain ⟨rfl, rfl, rfl, rfl, rfl, rfl, rfl⟩ := q
      exact ⟨_, _, rfl, rfl, rfl, rfl, rfl, rfl, rfl, rfl⟩
  · cases q
theorem sInc_inv (q : sInc i n ls st h kc ks = some (C, t, ls', st', h', kc', ks')) : ∃ z, ls[i]? = some (.inl z) ∧ aStok ls i = true ∧ t = none ∧ ls' = ls.set i (.inl (z + n)) ∧ st' = st ∧ h' = h ∧ kc' = kc ∧ ks' = ks := by
  unfold sInc at q
  split at q
  · rename_i z hz
    cases hb : aStok ls i with
    | false => rw [hb] at q; cases q
    | true =>
      rw [hb] at q
      simp only [Option.some.injEq, Prod.mk.injEq] at q
      obtain ⟨rfl, rfl, rfl, rfl, rfl, rfl, rfl⟩ := q
      exact ⟨_, hz, rfl, rfl, rfl, rfl, rfl, rfl, rfl⟩
  · cases q
theorem sBin_inv (q : sBin f ls st h kc ks = some (C, t, ls', st', h', kc', ks')) : ∃ a b r, st = .inl b :: .inl a :: r ∧ t = none ∧ ls' = ls ∧ st' = .inl (f a b) :: r ∧ h' = h ∧ kc' = kc ∧ ks' = ks := by
  unfold sBin at q
  split at q
  · simp only [Option.some.injEq, Prod.mk.injEq] at q
    obtain ⟨rfl, rfl, rfl, rfl, rfl, rfl, rfl⟩ := q
    exact ⟨_, _, _, rfl, rfl, rfl, rfl, rfl, rfl, rfl⟩
  · cases q
theorem sUn_inv (q : sUn g ls st h kc ks = some (C, t, ls', st', h', kc', ks')) : ∃ a r, st = .inl a :: r ∧ t = none ∧ ls' = ls ∧ st' = .inl (g a) :: r ∧ h' = h ∧ kc' = kc ∧ ks' = ks := by
  unfold sUn at q
  split at q
  · simp only [Option.some.injEq, Prod.mk.injEq] at q
    obtain ⟨rfl, rfl, rfl, rfl, rfl, rfl, rfl⟩ := q
    exact ⟨_, _, rfl, rfl, rfl, rfl, rfl, rfl, rfl⟩
  · cases q
theorem sDiv_inv (q : sDiv ls st h kc ks = some (C, t, ls', st', h', kc', ks')) : ∃ a b r, st = .inl b :: .inl a :: r ∧ C = some (inR a ∧ inR b ∧ b ≠ 0 ∧ ¬ (a = -2147483648 ∧ b = -1)) ∧ t = none ∧ ls' = ls ∧ st' = .inl (Int.tdiv a b) :: r ∧ h' = h ∧ kc' = kc ∧ ks' = ks := by
  unfold sDiv at q
  split at q
  · simp only [Option.some.injEq, Prod.mk.injEq] at q
    obtain ⟨rfl, rfl, rfl, rfl, rfl, rfl, rfl⟩ := q
    exact ⟨_, _, _, rfl, rfl, rfl, rfl, rfl, rfl, rfl, rfl⟩
  · cases q
theorem sLushr_inv (q : sLushr ls st h kc ks = some (C, t, ls', st', h', kc', ks')) : ∃ a b r, st = .inl b :: .inr (.inl a) :: r ∧ t = none ∧ ls' = ls ∧ st' = .inr (.inl (lUshr a b)) :: r ∧ h' = h ∧ kc' = kc ∧ ks' = ks := by
  unfold sLushr at q
  split at q
  · simp only [Option.some.injEq, Prod.mk.injEq] at q
    obtain ⟨rfl, rfl, rfl, rfl, rfl, rfl, rfl⟩ := q
    exact ⟨_, _, _, rfl, rfl, rfl, rfl, rfl, rfl, rfl⟩
  · cases q
theorem sLand_inv (q : sLand ls st h kc ks = some (C, t, ls', st', h', kc', ks')) : ∃ a b r, st = .inr (.inl b) :: .inr (.inl a) :: r ∧ t = none ∧ ls' = ls ∧ st' = .inr (.inl (lAnd a b)) :: r ∧ h' = h ∧ kc' = kc ∧ ks' = ks := by
  unfold sLand at q
  split at q
  · simp only [Option.some.injEq, Prod.mk.injEq] at q
    obtain ⟨rfl, rfl, rfl, rfl, rfl, rfl, rfl⟩ := q
    exact ⟨_, _, _, rfl, rfl, rfl, rfl, rfl, rfl, rfl⟩
  · cases q
theorem sL2i_inv (q : sL2i ls st h kc ks = some (C, t, ls', st', h', kc', ks')) : ∃ a r, st = .inr (.inl a) :: r ∧ t = none ∧ ls' = ls ∧ st' = .inl (l2iI a) :: r ∧ h' = h ∧ kc' = kc ∧ ks' = ks := by
  unfold sL2i at q
  split at q
  · simp only [Option.some.injEq, Prod.mk.injEq] at q
    obtain ⟨rfl, rfl, rfl, rfl, rfl, rfl, rfl⟩ := q
    exact ⟨_, _, rfl, rfl, rfl, rfl, rfl, rfl, rfl⟩
  · cases q
theorem sDup_inv (q : sDup ls st h kc ks = some (C, t, ls', st', h', kc', ks')) : ∃ v r, st = v :: r ∧ aIsLong v = false ∧ t = none ∧ ls' = ls ∧ st' = v :: v :: r ∧ h' = h ∧ kc' = kc ∧ ks' = ks := by
  unfold sDup at q
  split at q
  · rename_i v r
    cases hb : aIsLong v with
    | true => rw [hb] at q; cases q
    | false =>
      rw [hb] at q
      simp only [Option.some.injEq, Prod.mk.injEq] at q
      obtain ⟨rfl, rfl, rfl, rfl, rfl, rfl, rfl⟩ := q
      exact ⟨_, _, rfl, hb, rfl, rfl, rfl, rfl, rfl, rfl⟩
  · cases q
theorem sDup2_inv (q : sDup2 ls st h kc ks = some (C, t, ls', st', h', kc', ks')) : ∃ v w r, st = v :: w :: r ∧ aIsLong v = false ∧ aIsLong w = false ∧ t = none ∧ ls' = ls ∧ st' = v :: w :: v :: w :: r ∧ h' = h ∧ kc' = kc ∧ ks' = ks := by
  unfold sDup2 at q
  split at q
  · rename_i v w r
    cases hb : (aIsLong v || aIsLong w) with
    | true => rw [hb] at q; cases q
    | false =>
      rw [hb] at q
      simp only [Option.some.injEq, Prod.mk.injEq] at q
      obtain ⟨rfl, rfl, rfl, rfl, rfl, rfl, rfl⟩ := q
      obtain ⟨h1, h2⟩ := Bool.or_eq_false_iff.mp hb
      exact ⟨_, _, _, rfl, h1, h2, rfl, rfl, rfl, rfl, rfl, rfl⟩
  · cases q
theorem sPop_inv (q : sPop ls st h kc ks = some (C, t, ls', st', h', kc', ks')) : ∃ v r, st = v :: r ∧ aIsLong v = false ∧ t = none ∧ ls' = ls ∧ st' = r ∧ h' = h ∧ kc' = kc ∧ ks' = ks := by
  unfold sPop at q
  split at q
  · rename_i v r
    cases hb : aIsLong v with
    | true => rw [hb] at q; cases q
    | false =>
      rw [hb] at q
      simp only [Option.some.injEq, Prod.mk.injEq] at q
      obtain ⟨rfl, rfl, rfl, rfl, rfl, rfl, rfl⟩ := q
      exact ⟨_, _, rfl, hb, rfl, rfl, rfl, rfl, rfl, rfl⟩
  · cases q
theorem sLen_inv (q : sLen X ls st h kc ks = some (C, t, ls', st', h', kc', ks')) : ∃ v r n, st = v :: r ∧ t = none ∧ ls' = ls ∧ st' = .inl n :: r ∧ h' = h ∧ kc' = kc ∧ ks' = ks ∧
    ((∃ k t n' f, v = .inr (.inr (.inl (some k))) ∧ h[k]? = some (.inl (t, n', f)) ∧ n = (n' : Int)) ∨ (∃ k n' f, v = .inr (.inr (.inl (some k))) ∧ h[k]? = some (.inr (.inl (n', f))) ∧ n = (n' : Int)) ∨ (v = .inr (.inr (.inr 0)) ∧ n = X.1) ∨ ∃ i, i < 8 ∧ v = .inr (.inr (.inr (i + 100))) ∧ n = (aLen.getD i 0 : Nat)) := by
  unfold sLen at q
  split at q
  · split at q
    · rename_i hk
      simp only [Option.some.injEq, Prod.mk.injEq] at q
      obtain ⟨rfl, rfl, rfl, rfl, rfl, rfl, rfl⟩ := q
      exact ⟨_, _, _, rfl, rfl, rfl, rfl, rfl, rfl, rfl, Or.inl ⟨_, _, _, _, rfl, hk, rfl⟩⟩
    · rename_i hk
      simp only [Option.some.injEq, Prod.mk.injEq] at q
      obtain ⟨rfl, rfl, rfl, rfl, rfl, rfl, rfl⟩ := q
      exact ⟨_, _, _, rfl, rfl, rfl, rfl, rfl, rfl, rfl, Or.inr (Or.inl ⟨_, _, _, rfl, hk, rfl⟩)⟩
    · cases q
  · split at q
    · simp only [Option.some.injEq, Prod.mk.injEq] at q
      obtain ⟨rfl, rfl, rfl, rfl, rfl, rfl, rfl⟩ := q
      exact ⟨_, _, _, rfl, rfl, rfl, rfl, rfl, rfl, rfl, Or.inr (Or.inr (Or.inl ⟨rfl, rfl⟩))⟩
    · simp only [Option.some.injEq, Prod.mk.injEq] at q
      obtain ⟨rfl, rfl, rfl, rfl, rfl, rfl, rfl⟩ := q
      exact ⟨_, _, _, rfl, rfl, rfl, rfl, rfl, rfl, rfl, Or.inr (Or.inr (Or.inr ⟨0, by decide, rfl, rfl⟩))⟩
    · simp only [Option.some.injEq, Prod.mk.injEq] at q
      obtain ⟨rfl, rfl, rfl, rfl, rfl, rfl, rfl⟩ := q
      exact ⟨_, _, _, rfl, rfl, rfl, rfl, rfl, rfl, rfl, Or.inr (Or.inr (Or.inr ⟨1, by decide, rfl, rfl⟩))⟩
    · simp only [Option.some.injEq, Prod.mk.injEq] at q
      obtain ⟨rfl, rfl, rfl, rfl, rfl, rfl, rfl⟩ := q
      exact ⟨_, _, _, rfl, rfl, rfl, rfl, rfl, rfl, rfl, Or.inr (Or.inr (Or.inr ⟨2, by decide, rfl, rfl⟩))⟩
    · simp only [Option.some.injEq, Prod.mk.injEq] at q
      obtain ⟨rfl, rfl, rfl, rfl, rfl, rfl, rfl⟩ := q
      exact ⟨_, _, _, rfl, rfl, rfl, rfl, rfl, rfl, rfl, Or.inr (Or.inr (Or.inr ⟨3, by decide, rfl, rfl⟩))⟩
    · simp only [Option.some.injEq, Prod.mk.injEq] at q
      obtain ⟨rfl, rfl, rfl, rfl, rfl, rfl, rfl⟩ := q
      exact ⟨_, _, _, rfl, rfl, rfl, rfl, rfl, rfl, rfl, Or.inr (Or.inr (Or.inr ⟨4, by decide, rfl, rfl⟩))⟩
    · simp only [Option.some.injEq, Prod.mk.injEq] at q
      obtain ⟨rfl, rfl, rfl, rfl, rfl, rfl, rfl⟩ := q
      exact ⟨_, _, _, rfl, rfl, rfl, rfl, rfl, rfl, rfl, Or.inr (Or.inr (Or.inr ⟨5, by decide, rfl, rfl⟩))⟩
    · simp only [Option.some.injEq, Prod.mk.injEq] at q
      obtain ⟨rfl, rfl, rfl, rfl, rfl, rfl, rfl⟩ := q
      exact ⟨_, _, _, rfl, rfl, rfl, rfl, rfl, rfl, rfl, Or.inr (Or.inr (Or.inr ⟨6, by decide, rfl, rfl⟩))⟩
    · simp only [Option.some.injEq, Prod.mk.injEq] at q
      obtain ⟨rfl, rfl, rfl, rfl, rfl, rfl, rfl⟩ := q
      exact ⟨_, _, _, rfl, rfl, rfl, rfl, rfl, rfl, rfl, Or.inr (Or.inr (Or.inr ⟨7, by decide, rfl, rfl⟩))⟩
    · cases q
  · cases q
theorem sILd_inv (q : sILd X ls st h kc ks = some (C, t, ls', st', h', kc', ks')) : ∃ i r, t = none ∧ ls' = ls ∧ h' = h ∧ kc' = kc ∧ ks' = ks ∧
    ((∃ k n f, st = .inl i :: .inr (.inr (.inl (some k))) :: r ∧ h[k]? = some (.inl (0, n, f)) ∧ C = some (aInB i n) ∧ st' = .inl (f i) :: r) ∨ (st = .inl i :: .inr (.inr (.inr 0)) :: r ∧ C = some (aInB i X.1) ∧ st' = .inl (X.2 i) :: r)) := by
  unfold sILd at q
  split at q
  · split at q
    · rename_i hk
      simp only [Option.some.injEq, Prod.mk.injEq] at q
      obtain ⟨rfl, rfl, rfl, rfl, rfl, rfl, rfl⟩ := q
      exact ⟨_, _, rfl, rfl, rfl, rfl, rfl, Or.inl ⟨_, _, _, rfl, hk, rfl, rfl⟩⟩
    · cases q
  · simp only [Option.some.injEq, Prod.mk.injEq] at q
    obtain ⟨rfl, rfl, rfl, rfl, rfl, rfl, rfl⟩ := q
    exact ⟨_, _, rfl, rfl, rfl, rfl, rfl, Or.inr ⟨rfl, rfl, rfl⟩⟩
  · cases q
theorem sBLd_inv (q : sBLd ls st h kc ks = some (C, t, ls', st', h', kc', ks')) : ∃ i r, t = none ∧ ls' = ls ∧ h' = h ∧ kc' = kc ∧ ks' = ks ∧
    ((∃ k n f t0, (t0 = 1 ∨ t0 = 2) ∧ st = .inl i :: .inr (.inr (.inl (some k))) :: r ∧ h[k]? = some (.inl (t0, n, f)) ∧ C = some (aInB i n) ∧ st' = .inl (f i) :: r) ∨ (∃ k, k < 8 ∧ st = .inl i :: .inr (.inr (.inr (k + 100))) :: r ∧ C = some (aInB i (aSL k).length) ∧ st' = .inl ((aSL k).getD i.toNat 0) :: r)) := by
  unfold sBLd at q
  split at q
  · split at q
    · rename_i hk
      simp only [Option.some.injEq, Prod.mk.injEq] at q
      obtain ⟨rfl, rfl, rfl, rfl, rfl, rfl, rfl⟩ := q
      exact ⟨_, _, rfl, rfl, rfl, rfl, rfl, Or.inl ⟨_, _, _, 1, Or.inl rfl, rfl, hk, rfl, rfl⟩⟩
    · rename_i hk
      simp only [Option.some.injEq, Prod.mk.injEq] at q
      obtain ⟨rfl, rfl, rfl, rfl, rfl, rfl, rfl⟩ := q
      exact ⟨_, _, rfl, rfl, rfl, rfl, rfl, Or.inl ⟨_, _, _, 2, Or.inr rfl, rfl, hk, rfl, rfl⟩⟩
    · cases q
  · rename_i i j r
    cases hb : (Nat.ble 100 j && Nat.blt j 108) with
    | false => rw [hb] at q; cases q
    | true =>
      rw [hb] at q
      simp only [Option.some.injEq, Prod.mk.injEq] at q
      obtain ⟨rfl, rfl, rfl, rfl, rfl, rfl, rfl⟩ := q
      simp only [Bool.and_eq_true, Nat.blt_eq] at hb
      have h1 := Nat.le_of_ble_eq_true hb.1
      exact ⟨i, r, rfl, rfl, rfl, rfl, rfl, Or.inr ⟨j - 100, by omega, by rw [Nat.sub_add_cancel h1], rfl, rfl⟩⟩
  · cases q
theorem sALd_inv (q : sALd ls st h kc ks = some (C, t, ls', st', h', kc', ks')) : ∃ i r k n f, t = none ∧ ls' = ls ∧ h' = h ∧ kc' = kc ∧ ks' = ks ∧ st = .inl i :: .inr (.inr (.inl (some k))) :: r ∧ h[k]? = some (.inr (.inl (n, f))) ∧ C = some (aInB i n) ∧ st' = .inr (.inr (.inl (f i))) :: r := by
  unfold sALd at q
  split at q
  · split at q
    · rename_i hk
      simp only [Option.some.injEq, Prod.mk.injEq] at q
      obtain ⟨rfl, rfl, rfl, rfl, rfl, rfl, rfl⟩ := q
      exact ⟨_, _, _, _, _, rfl, rfl, rfl, rfl, rfl, rfl, hk, rfl, rfl⟩
    · cases q
  · cases q
theorem sISt_inv (q : sISt ls st h kc ks = some (C, t, ls', st', h', kc', ks')) : ∃ v i r k n f, t = none ∧ ls' = ls ∧ kc' = kc ∧ ks' = ks ∧ st = .inl v :: .inl i :: .inr (.inr (.inl (some k))) :: r ∧ h[k]? = some (.inl (0, n, f)) ∧ C = some (aInB i n) ∧ st' = r ∧ h' = h.set k (.inl (0, n, aUp f i v)) := by
  unfold sISt at q
  split at q
  · split at q
    · rename_i hk
      simp only [Option.some.injEq, Prod.mk.injEq] at q
      obtain ⟨rfl, rfl, rfl, rfl, rfl, rfl, rfl⟩ := q
      exact ⟨_, _, _, _, _, _, rfl, rfl, rfl, rfl, rfl, hk, rfl, rfl, rfl⟩
    · cases q
  · cases q
theorem sBSt_inv (q : sBSt ls st h kc ks = some (C, t, ls', st', h', kc', ks')) : ∃ v i r k n f, t = none ∧ ls' = ls ∧ kc' = kc ∧ ks' = ks ∧ st = .inl v :: .inl i :: .inr (.inr (.inl (some k))) :: r ∧ st' = r ∧
    ((h[k]? = some (.inl (1, n, f)) ∧ C = some (aInB i n) ∧ h' = h.set k (.inl (1, n, aUp f i (bByte v)))) ∨ (h[k]? = some (.inl (2, n, f)) ∧ C = some (aInB i n ∧ (v = 0 ∨ v = 1)) ∧ h' = h.set k (.inl (2, n, aUp f i v)))) := by
  unfold sBSt at q
  split at q
  · split at q
    · rename_i hk
      simp only [Option.some.injEq, Prod.mk.injEq] at q
      obtain ⟨rfl, rfl, rfl, rfl, rfl, rfl, rfl⟩ := q
      exact ⟨_, _, _, _, _, _, rfl, rfl, rfl, rfl, rfl, rfl, Or.inl ⟨hk, rfl, rfl⟩⟩
    · rename_i hk
      simp only [Option.some.injEq, Prod.mk.injEq] at q
      obtain ⟨rfl, rfl, rfl, rfl, rfl, rfl, rfl⟩ := q
      exact ⟨_, _, _, _, _, _, rfl, rfl, rfl, rfl, rfl, rfl, Or.inr ⟨hk, rfl, rfl⟩⟩
    · cases q
  · cases q
theorem sASt_inv (q : sASt ls st h kc ks = some (C, t, ls', st', h', kc', ks')) : ∃ v i r k n f fs, t = none ∧ ls' = ls ∧ kc' = kc ∧ ks' = ks ∧ st = .inr (.inr (.inl (some v))) :: .inl i :: .inr (.inr (.inl (some k))) :: r ∧ h[k]? = some (.inr (.inl (n, f))) ∧ h[v]? = some (.inr (.inr (0, fs))) ∧ C = some (aInB i n) ∧ st' = r ∧ h' = h.set k (.inr (.inl (n, aUp f i (some v)))) := by
  unfold sASt at q
  split at q
  · split at q
    · rename_i hk
      split at q
      · rename_i hv
        simp only [Option.some.injEq, Prod.mk.injEq] at q
        obtain ⟨rfl, rfl, rfl, rfl, rfl, rfl, rfl⟩ := q
        exact ⟨_, _, _, _, _, _, _, rfl, rfl, rfl, rfl, rfl, hk, hv, rfl, rfl, rfl⟩
      · cases q
    · cases q
  · cases q
theorem sNewA_inv {a : Nat} (q : sNewA a ls st h kc ks = some (C, t, ls', st', h', kc', ks')) : ∃ n r, t = none ∧ ls' = ls ∧ st = .inl n :: r ∧ C = some (aRoomOk n kc ks) ∧ st' = .inr (.inr (.inl (some h.length))) :: r ∧ h' = h ++ [.inl (a, n.toNat, fun _ => 0)] ∧ kc' = kc - 1 ∧ ks' = ks - n.toNat := by
  unfold sNewA at q
  split at q
  · simp only [Option.some.injEq, Prod.mk.injEq] at q
    obtain ⟨rfl, rfl, rfl, rfl, rfl, rfl, rfl⟩ := q
    exact ⟨_, _, rfl, rfl, rfl, rfl, rfl, rfl, rfl, rfl⟩
  · cases q
theorem sNewQ_inv (q : sNewQ ls st h kc ks = some (C, t, ls', st', h', kc', ks')) : ∃ n r, t = none ∧ ls' = ls ∧ st = .inl n :: r ∧ C = some (aRoomOk n kc ks) ∧ st' = .inr (.inr (.inl (some h.length))) :: r ∧ h' = h ++ [.inr (.inl (n.toNat, fun _ => none))] ∧ kc' = kc - 1 ∧ ks' = ks - n.toNat := by
  unfold sNewQ at q
  split at q
  · simp only [Option.some.injEq, Prod.mk.injEq] at q
    obtain ⟨rfl, rfl, rfl, rfl, rfl, rfl, rfl⟩ := q
    exact ⟨_, _, rfl, rfl, rfl, rfl, rfl, rfl, rfl, rfl⟩
  · cases q
theorem sNew_inv (q : sNew aux ls st h kc ks = some (C, t, ls', st', h', kc', ks')) : ∃ c, aux = [c] ∧ t = none ∧ ls' = ls ∧ C = some (1 ≤ kc ∧ aN.getD c 0 ≤ ks) ∧ st' = .inr (.inr (.inl (some h.length))) :: st ∧ h' = h ++ [.inr (.inr (c, aDefs c))] ∧ kc' = kc - 1 ∧ ks' = ks - aN.getD c 0 := by
  unfold sNew at q
  split at q
  · simp only [Option.some.injEq, Prod.mk.injEq] at q
    obtain ⟨rfl, rfl, rfl, rfl, rfl, rfl, rfl⟩ := q
    exact ⟨_, rfl, rfl, rfl, rfl, rfl, rfl, rfl, rfl⟩
  · cases q
theorem sGet_inv (q : sGet aux ls st h kc ks = some (C, t, ls', st', h', kc', ks')) : ∃ v r, t = none ∧ ls' = ls ∧ h' = h ∧ kc' = kc ∧ ks' = ks ∧ st' = v :: r ∧
    ((∃ c k f q fs, aux = [c, k, f] ∧ st = .inr (.inr (.inl (some q))) :: r ∧ h[q]? = some (.inr (.inr (c, fs))) ∧ fs[k]? = some v) ∨ (∃ i, i < 8 ∧ st = .inr (.inr (.inr (i + 1))) :: r ∧ ((aux = [100, 0] ∧ v = .inr (.inr (.inr (i + 100)))) ∨ ∃ k, k ≠ 0 ∧ aux = [100, k] ∧ v = .inl 0))) := by
  unfold sGet at q
  split at q
  · rename_i c k f
    split at q
    · rename_i qq r
      split at q
      · rename_i c' fs hq
        cases hb : Nat.beq c c' with
        | false => rw [hb] at q; cases q
        | true =>
          rw [hb] at q
          dsimp only at q
          have hc : c = c' := Nat.eq_of_beq_eq_true hb
          subst hc
          split at q
          · rename_i v hv
            simp only [Option.some.injEq, Prod.mk.injEq] at q
            obtain ⟨rfl, rfl, rfl, rfl, rfl, rfl, rfl⟩ := q
            exact ⟨_, _, rfl, rfl, rfl, rfl, rfl, rfl, Or.inl ⟨_, _, _, _, _, rfl, rfl, hq, hv⟩⟩
          · cases q
      · cases q
    · cases q
  · rename_i k
    split at q
    · rename_i j r
      cases hb : (Nat.ble 1 j && Nat.ble j 8) with
      | false => rw [hb] at q; cases q
      | true =>
        rw [hb] at q
        dsimp only at q
        simp only [Bool.and_eq_true] at hb
        have h1 := Nat.le_of_ble_eq_true hb.1
        have h2 := Nat.le_of_ble_eq_true hb.2
        split at q
        · simp only [Option.some.injEq, Prod.mk.injEq] at q
          obtain ⟨rfl, rfl, rfl, rfl, rfl, rfl, rfl⟩ := q
          exact ⟨_, r, rfl, rfl, rfl, rfl, rfl, rfl, Or.inr ⟨j - 1, by omega, by rw [Nat.sub_add_cancel h1], Or.inl ⟨rfl, by rw [show j - 1 + 100 = j + 99 by omega]⟩⟩⟩
        · rename_i hk
          simp only [Option.some.injEq, Prod.mk.injEq] at q
          obtain ⟨rfl, rfl, rfl, rfl, rfl, rfl, rfl⟩ := q
          exact ⟨_, r, rfl, rfl, rfl, rfl, rfl, rfl, Or.inr ⟨j - 1, by omega, by rw [Nat.sub_add_cancel h1], Or.inr ⟨k, hk, rfl, rfl⟩⟩⟩
    · cases q
  · cases q
theorem sPut_inv (q : sPut aux ls st h kc ks = some (C, t, ls', st', h', kc', ks')) : ∃ c k f v q fs r, aux = [c, k, f] ∧ st = v :: .inr (.inr (.inl (some q))) :: r ∧ h[q]? = some (.inr (.inr (c, fs))) ∧ k < fs.length ∧ aFit (aTy.getD c tyX0 k) v = some C ∧ t = none ∧ ls' = ls ∧ st' = r ∧ h' = h.set q (.inr (.inr (c, fs.set k v))) ∧ kc' = kc ∧ ks' = ks := by
  unfold sPut at q
  split at q
  · rename_i c k f
    split at q
    · rename_i v qq r
      split at q
      · rename_i c' fs hq
        cases hb : (Nat.beq c c' && Nat.blt k fs.length) with
        | false => rw [hb] at q; cases q
        | true =>
          rw [hb] at q
          dsimp only at q
          simp only [Bool.and_eq_true, Nat.blt_eq] at hb
          have hc : c = c' := Nat.eq_of_beq_eq_true hb.1
          subst hc
          split at q
          · rename_i C0 hC0
            simp only [Option.some.injEq, Prod.mk.injEq] at q
            obtain ⟨rfl, rfl, rfl, rfl, rfl, rfl, rfl⟩ := q
            exact ⟨_, _, _, _, _, _, _, rfl, rfl, hq, hb.2, hC0, rfl, rfl, rfl, rfl, rfl, rfl⟩
          · cases q
      · cases q
    · cases q
  · cases q
theorem sStat_inv (q : sStat aux ls st h kc ks = some (C, t, ls', st', h', kc', ks')) : t = none ∧ ls' = ls ∧ h' = h ∧ kc' = kc ∧ ks' = ks ∧ ((aux = [0] ∧ st' = .inl 1 :: st) ∨ (aux = [1] ∧ st' = .inr (.inr (.inr 900)) :: st)) := by
  unfold sStat at q
  split at q
  · simp only [Option.some.injEq, Prod.mk.injEq] at q
    obtain ⟨rfl, rfl, rfl, rfl, rfl, rfl, rfl⟩ := q
    exact ⟨rfl, rfl, rfl, rfl, rfl, Or.inl ⟨rfl, rfl⟩⟩
  · simp only [Option.some.injEq, Prod.mk.injEq] at q
    obtain ⟨rfl, rfl, rfl, rfl, rfl, rfl, rfl⟩ := q
    exact ⟨rfl, rfl, rfl, rfl, rfl, Or.inr ⟨rfl, rfl⟩⟩
  · cases q
theorem sIf_inv (q : sIf c aux dn ls st h kc ks = some (C, t, ls', st', h', kc', ks')) : ∃ x r t0, st = .inl x :: r ∧ aux = [t0] ∧ ls' = ls ∧ st' = r ∧ h' = h ∧ kc' = kc ∧ ks' = ks ∧ ((C = some (inR x ∧ ¬ aRel c x 0) ∧ t = none) ∨ (C = some (inR x ∧ aRel c x 0) ∧ t = some t0)) := by
  unfold sIf at q
  split at q
  · split at q
    · split at q
      · simp only [Option.some.injEq, Prod.mk.injEq] at q
        obtain ⟨rfl, rfl, rfl, rfl, rfl, rfl, rfl⟩ := q
        exact ⟨_, _, _, rfl, rfl, rfl, rfl, rfl, rfl, rfl, Or.inl ⟨rfl, rfl⟩⟩
      · simp only [Option.some.injEq, Prod.mk.injEq] at q
        obtain ⟨rfl, rfl, rfl, rfl, rfl, rfl, rfl⟩ := q
        exact ⟨_, _, _, rfl, rfl, rfl, rfl, rfl, rfl, rfl, Or.inr ⟨rfl, rfl⟩⟩
    · cases q
  · cases q
theorem sCmp_inv (q : sCmp c aux dn ls st h kc ks = some (C, t, ls', st', h', kc', ks')) : ∃ x y r t0, st = .inl y :: .inl x :: r ∧ aux = [t0] ∧ ls' = ls ∧ st' = r ∧ h' = h ∧ kc' = kc ∧ ks' = ks ∧ ((C = some (inR x ∧ inR y ∧ ¬ aRel c x y) ∧ t = none) ∨ (C = some (inR x ∧ inR y ∧ aRel c x y) ∧ t = some t0)) := by
  unfold sCmp at q
  split at q
  · split at q
    · split at q
      · simp only [Option.some.injEq, Prod.mk.injEq] at q
        obtain ⟨rfl, rfl, rfl, rfl, rfl, rfl, rfl⟩ := q
        exact ⟨_, _, _, _, rfl, rfl, rfl, rfl, rfl, rfl, rfl, Or.inl ⟨rfl, rfl⟩⟩
      · simp only [Option.some.injEq, Prod.mk.injEq] at q
        obtain ⟨rfl, rfl, rfl, rfl, rfl, rfl, rfl⟩ := q
        exact ⟨_, _, _, _, rfl, rfl, rfl, rfl, rfl, rfl, rfl, Or.inr ⟨rfl, rfl⟩⟩
    · cases q
  · cases q
theorem sNull_inv {b : Bool} (q : sNull b aux ls st h kc ks = some (C, t, ls', st', h', kc', ks')) : ∃ o r t0, st = .inr (.inr (.inl o)) :: r ∧ aux = [t0] ∧ ls' = ls ∧ st' = r ∧ h' = h ∧ kc' = kc ∧ ks' = ks ∧ ((o = none ∧ t = if b then some t0 else none) ∨ ∃ k, o = some k ∧ t = if b then none else some t0) := by
  unfold sNull at q
  split at q
  · split at q
    · split at q
      · simp only [Option.some.injEq, Prod.mk.injEq] at q
        obtain ⟨rfl, rfl, rfl, rfl, rfl, rfl, rfl⟩ := q
        exact ⟨_, _, _, rfl, rfl, rfl, rfl, rfl, rfl, rfl, Or.inl ⟨rfl, rfl⟩⟩
      · simp only [Option.some.injEq, Prod.mk.injEq] at q
        obtain ⟨rfl, rfl, rfl, rfl, rfl, rfl, rfl⟩ := q
        exact ⟨_, _, _, rfl, rfl, rfl, rfl, rfl, rfl, rfl, Or.inr ⟨_, rfl, rfl⟩⟩
    · cases q
  · cases q
theorem sGoto_inv (q : sGoto aux ls st h kc ks = some (C, t, ls', st', h', kc', ks')) : ∃ t0, aux = [t0] ∧ t = some t0 ∧ ls' = ls ∧ st' = st ∧ h' = h ∧ kc' = kc ∧ ks' = ks := by
  unfold sGoto at q
  split at q
  · simp only [Option.some.injEq, Prod.mk.injEq] at q
    obtain ⟨rfl, rfl, rfl, rfl, rfl, rfl, rfl⟩ := q
    exact ⟨_, rfl, rfl, rfl, rfl, rfl, rfl, rfl⟩
  · cases q
theorem sTab_inv (q : sTab lo hi aux dn ls st h kc ks = some (C, t, ls', st', h', kc', ks')) : ∃ x r t0 ts, st = .inl x :: r ∧ aux = t0 :: ts ∧ ls' = ls ∧ st' = r ∧ h' = h ∧ kc' = kc ∧ ks' = ks ∧ ((∃ t1, ts[dn]? = some t1 ∧ C = some (inR x ∧ x = lo + dn) ∧ t = some t1) ∨ (C = some (inR x ∧ (x < lo ∨ hi < x)) ∧ t = some t0)) := by
  unfold sTab at q
  split at q
  · split at q
    · split at q
      · rename_i ht
        simp only [Option.some.injEq, Prod.mk.injEq] at q
        obtain ⟨rfl, rfl, rfl, rfl, rfl, rfl, rfl⟩ := q
        exact ⟨_, _, _, _, rfl, rfl, rfl, rfl, rfl, rfl, rfl, Or.inl ⟨_, ht, rfl, rfl⟩⟩
      · simp only [Option.some.injEq, Prod.mk.injEq] at q
        obtain ⟨rfl, rfl, rfl, rfl, rfl, rfl, rfl⟩ := q
        exact ⟨_, _, _, _, rfl, rfl, rfl, rfl, rfl, rfl, rfl, Or.inr ⟨rfl, rfl⟩⟩
    · cases q
  · cases q
theorem sLook_inv (q : sLook ps aux dn ls st h kc ks = some (C, t, ls', st', h', kc', ks')) : ∃ x r t0 t1 t2 k1 o1 k2 o2, st = .inl x :: r ∧ aux = [t0, t1, t2] ∧ ps.toList = [(k1, o1), (k2, o2)] ∧ ls' = ls ∧ st' = r ∧ h' = h ∧ kc' = kc ∧ ks' = ks ∧ ((C = some (inR x ∧ x = k1) ∧ t = some t1) ∨ (C = some (inR x ∧ x = k2) ∧ t = some t2) ∨ (C = some (inR x ∧ ¬ x = k1 ∧ ¬ x = k2) ∧ t = some t0)) := by
  unfold sLook at q
  split at q
  · split at q
    · split at q
      · rename_i hp
        split at q
        · simp only [Option.some.injEq, Prod.mk.injEq] at q
          obtain ⟨rfl, rfl, rfl, rfl, rfl, rfl, rfl⟩ := q
          exact ⟨_, _, _, _, _, _, _, _, _, rfl, rfl, hp, rfl, rfl, rfl, rfl, rfl, Or.inl ⟨rfl, rfl⟩⟩
        · simp only [Option.some.injEq, Prod.mk.injEq] at q
          obtain ⟨rfl, rfl, rfl, rfl, rfl, rfl, rfl⟩ := q
          exact ⟨_, _, _, _, _, _, _, _, _, rfl, rfl, hp, rfl, rfl, rfl, rfl, rfl, Or.inr (Or.inl ⟨rfl, rfl⟩)⟩
        · simp only [Option.some.injEq, Prod.mk.injEq] at q
          obtain ⟨rfl, rfl, rfl, rfl, rfl, rfl, rfl⟩ := q
          exact ⟨_, _, _, _, _, _, _, _, _, rfl, rfl, hp, rfl, rfl, rfl, rfl, rfl, Or.inr (Or.inr ⟨rfl, rfl⟩)⟩
      · cases q
    · cases q
  · cases q
theorem sLdc_inv (q : sLdc aux ls st h kc ks = some (C, t, ls', st', h', kc', ks')) : t = none ∧ ls' = ls ∧ h' = h ∧ kc' = kc ∧ ks' = ks ∧ ((∃ v : Nat, aux = [0, v] ∧ st' = .inl (v : Int) :: st) ∨ ∃ i, aux = [1, i] ∧ st' = .inr (.inr (.inr (i + 1))) :: st) := by
  unfold sLdc at q
  split at q
  · simp only [Option.some.injEq, Prod.mk.injEq] at q
    obtain ⟨rfl, rfl, rfl, rfl, rfl, rfl, rfl⟩ := q
    exact ⟨rfl, rfl, rfl, rfl, rfl, Or.inl ⟨_, rfl, rfl⟩⟩
  · simp only [Option.some.injEq, Prod.mk.injEq] at q
    obtain ⟨rfl, rfl, rfl, rfl, rfl, rfl, rfl⟩ := q
    exact ⟨rfl, rfl, rfl, rfl, rfl, Or.inr ⟨_, rfl, rfl⟩⟩
  · cases q
theorem sLdc2_inv (q : sLdc2 aux ls st h kc ks = some (C, t, ls', st', h', kc', ks')) : ∃ v : Nat, aux = [v] ∧ t = none ∧ ls' = ls ∧ h' = h ∧ kc' = kc ∧ ks' = ks ∧ st' = .inr (.inl (v : Int)) :: st := by
  unfold sLdc2 at q
  split at q
  · simp only [Option.some.injEq, Prod.mk.injEq] at q
    obtain ⟨rfl, rfl, rfl, rfl, rfl, rfl, rfl⟩ := q
    exact ⟨_, rfl, rfl, rfl, rfl, rfl, rfl, rfl⟩
  · cases q
end INV

/-! ===== one instruction, soundly ===== -/
section XIF
variable {p : Program} {l : Launch} {e : Env} {R : Room} {s : State} {m : MethodId} {args : Array Value} {below : List Frame} {meth : Method} {c : Code} {H : Heap} {locs : List Loc} {cells slots : Nat} {Q : State → Prop}
variable {cc : ByteArray} {pc : Nat} {ls : Array Slot} {rest : List Value}
theorem x_if (hx : p.tables.exec = Jvm.exec) (hb : c.code = cc) {c0 : ClassFile.Cond} {x : Int} {off : Int} {tgt : Nat} (hr : inR x) (hdg : decode cc pc = .ok (.ifCond c0 off, 3)) (ht : (pc : Int) + off = (tgt : Int))
    (kt : aRel c0 x 0 → W p l e R s m args below meth c H locs cells slots Q (F0 m tgt ls rest)) (kf : ¬ aRel c0 x 0 → W p l e R s m args below meth c H locs cells slots Q (F0 m (pc + 3) ls rest)) : W p l e R s m args below meth c H locs cells slots Q (F0 m pc ls (.int (Int32.ofInt x) :: rest)) := by
  have he : Int32.ofInt x = 0 ↔ x = 0 := by rw [← oI_0]; exact oI_eq hr inR_0
  have h1 : Int32.ofInt x < 0 ↔ x < 0 := by rw [← oI_0]; exact oI_lt hr inR_0
  have h2 : 0 ≤ Int32.ofInt x ↔ 0 ≤ x := by rw [← oI_0]; exact oI_le inR_0 hr
  have h3 : 0 < Int32.ofInt x ↔ 0 < x := by rw [← oI_0]; exact oI_lt inR_0 hr
  have h4 : Int32.ofInt x ≤ 0 ↔ x ≤ 0 := by rw [← oI_0]; exact oI_le hr inR_0
  cases c0
  · exact lv_if_eq hx hb hdg ht (fun q => kt (he.mp q)) (fun q => kf (fun z => q (he.mpr z)))
  · exact lv_if_ne hx hb hdg ht (fun q => kt (fun z => q (he.mpr z))) (fun q => kf (fun z => z (he.mp q)))
  · exact lv_if_lt hx hb hdg ht (fun q => kt (h1.mp q)) (fun q => kf (fun z => q (h1.mpr z)))
  · exact lv_if_ge hx hb hdg ht (fun q => kt (h2.mp q)) (fun q => kf (fun z => q (h2.mpr z)))
  · exact lv_if_gt hx hb hdg ht (fun q => kt (h3.mp q)) (fun q => kf (fun z => q (h3.mpr z)))
  · exact lv_if_le hx hb hdg ht (fun q => kt (h4.mp q)) (fun q => kf (fun z => q (h4.mpr z)))
theorem x_cmp (hx : p.tables.exec = Jvm.exec) (hb : c.code = cc) {c0 : ClassFile.Cond} {x y : Int} {off : Int} {tgt : Nat} (hr : inR x) (hr2 : inR y) (hdg : decode cc pc = .ok (.if_icmp c0 off, 3)) (ht : (pc : Int) + off = (tgt : Int))
    (kt : aRel c0 x y → W p l e R s m args below meth c H locs cells slots Q (F0 m tgt ls rest)) (kf : ¬ aRel c0 x y → W p l e R s m args below meth c H locs cells slots Q (F0 m (pc + 3) ls rest)) : W p l e R s m args below meth c H locs cells slots Q (F0 m pc ls (.int (Int32.ofInt y) :: .int (Int32.ofInt x) :: rest)) := by
  have he := oI_eq hr hr2
  have h1 := oI_lt hr hr2
  have h2 := oI_le hr2 hr
  have h3 := oI_lt hr2 hr
  have h4 := oI_le hr hr2
  cases c0
  · exact lv_icmp_eq hx hb hdg ht (fun q => kt (he.mp q)) (fun q => kf (fun z => q (he.mpr z)))
  · exact lv_icmp_ne hx hb hdg ht (fun q => kt (fun z => q (he.mpr z))) (fun q => kf (fun z => z (he.mp q)))
  · exact lv_icmp_lt hx hb hdg ht (fun q => kt (h1.mp q)) (fun q => kf (fun z => q (h1.mpr z)))
  · exact lv_icmp_ge hx hb hdg ht (fun q => kt (h2.mp q)) (fun q => kf (fun z => q (h2.mpr z)))
  · exact lv_icmp_gt hx hb hdg ht (fun q => kt (h3.mp q)) (fun q => kf (fun z => q (h3.mpr z)))
  · exact lv_icmp_le hx hb hdg ht (fun q => kt (h4.mp q)) (fun q => kf (fun z => q (h4.mpr z)))
end XIF
theorem oI_nat (n : Nat) : Int32.ofNat n = Int32.ofInt (n : Int) := by first | exact (Int32.ofInt_eq_ofNat).symm | exact Int32.ofInt_eq_ofNat.symm | (rw [← Int32.toInt_inj]; simp [Int32.toInt_ofNat', Int32.toInt_ofInt])
theorem oI_nneg {n : Int} (hr : inR n) (h : 0 ≤ n) : ¬ Int32.ofInt n < 0 := by
  intro q
  have h0 : Int32.ofInt n < Int32.ofInt 0 := by rw [oI_0]; exact q
  have := (oI_lt hr inR_0).mp h0
  omega
theorem oI_div (a b : Int) (ha : inR a) (hb : inR b) : Int32.ofInt a / Int32.ofInt b = Int32.ofInt (Int.tdiv a b) := by
  rw [← Int32.toInt_inj, Int32.toInt_div, oI_in ha, oI_in hb, Int32.toInt_ofInt]
theorem okT_spec {E : List AE} {pc t : Nat} {off : Int} (h : okT E pc off t = true) : (pc : Int) + off = (pcAt E t : Int) := by
  simp only [okT, Bool.and_eq_true, decide_eq_true_eq] at h
  exact h.2
theorem aUp_nat {f : Int → Int} {i v : Int} (hi : ((i.toNat : Nat) : Int) = i) : (fun j : Nat => Int32.ofInt (aUp f i v (j : Int))) = upd (fun j : Nat => Int32.ofInt (f (j : Int))) i.toNat (Int32.ofInt v) := by
  funext j
  unfold aUp upd
  by_cases e : j = i.toNat
  · subst e; rw [if_pos hi, if_pos rfl]
  · rw [if_neg (by omega), if_neg e]
theorem aUp_natQ {f : Int → Option Nat} {i : Int} {v bs : Nat} (hi : ((i.toNat : Nat) : Int) = i) : (fun j : Nat => (aUp f i (some v) (j : Int)).map (fun k => bs + k)) = va_up (fun j : Nat => (f (j : Int)).map (fun k => bs + k)) i.toNat (some (bs + v)) := by
  funext j
  unfold aUp va_up
  by_cases e : j = i.toNat
  · subst e; rw [if_pos hi, if_pos rfl]; rfl
  · rw [if_neg (by omega), if_neg e]
theorem vV_def (bs : Nat) (ex : Nat → Value) (ty : FieldType) : defaultValue ty = vV bs ex (aDef1 ty) ∨ ty = .long ∨ ty = .float ∨ ty = .double := by
  cases ty <;> first | exact Or.inl rfl | exact Or.inr (Or.inl rfl) | exact Or.inr (Or.inr (Or.inl rfl)) | exact Or.inr (Or.inr (Or.inr rfl))
/-- no field of ours is a long, a float, a double -/
def okTy (c : Nat) : Bool := (List.range (aN.getD c 0)).all (fun k => match aTy.getD c tyX0 k with
  | .long => false
  | .float => false
  | .double => false
  | _ => true)
theorem okTy_all : (List.range 13).all okTy = true := by decide +kernel
theorem aDefs_ok {bs : Nat} {ex : Nat → Value} {c N : Nat} (hc : c < 13) (hN : aN.getD c 0 = N) : ∀ j, j < N → defaultValue (aTy.getD c tyX0 j) = vp_V ((aDefs c).map (vV bs ex)) j := by
  intro j hj
  subst hN
  have h1 := List.all_eq_true.mp (List.all_eq_true.mp okTy_all c (List.mem_range.mpr hc)) j (List.mem_range.mpr hj)
  have h2 : vp_V ((aDefs c).map (vV bs ex)) j = vV bs ex (aDef1 (aTy.getD c tyX0 j)) := by
    unfold vp_V aDefs
    rw [List.getD_eq_getElem?_getD, List.getElem?_map, List.getElem?_map, List.getElem?_range hj]
    rfl
  rw [h2]
  rcases vV_def bs ex (aTy.getD c tyX0 j) with q | q | q | q
  · exact q
  · rw [q] at h1; cases h1
  · rw [q] at h1; cases h1
  · rw [q] at h1; cases h1
theorem aN_eq {c : Nat} {C : String} {T : u_T} {N : Nat} (h : aCl[c]? = some (C, T, N)) : aN.getD c 0 = N ∧ c < 13 := by
  refine ⟨?_, (List.getElem?_eq_some_iff.mp h).1⟩
  unfold aN
  rw [List.getD_eq_getElem?_getD, List.getElem?_map, h]
  rfl
theorem aFit_ok {bs : Nat} {ex : Nat → Value} {ty : FieldType} {v : AV} {C : Option Prop} (h : aFit ty v = some C) (hC : aHolds C) : narrow ty (vV bs ex v) = vV bs ex v ∧ fits ty (vV bs ex v) = true := by
  unfold aFit at h
  split at h
  · split at h
    · exact ⟨rfl, rfl⟩
    · cases h
  · split at h
    · cases h
      have e0 : narrow .boolean (.int (Int32.ofInt 0)) = .int (Int32.ofInt 0) ∧ fits .boolean (.int (Int32.ofInt 0)) = true := by decide +kernel
      have e1 : narrow .boolean (.int (Int32.ofInt 1)) = .int (Int32.ofInt 1) ∧ fits .boolean (.int (Int32.ofInt 1)) = true := by decide +kernel
      rcases hC with rfl | rfl
      · exact e0
      · exact e1
    · cases h
  · split at h
    · rename_i r
      cases r <;> exact ⟨rfl, rfl⟩
    · cases h
  · split at h
    · rename_i r
      cases r <;> exact ⟨rfl, rfl⟩
    · cases h
  · cases h
theorem aTb_int : Cond.arrayClass .int ∈ aTb := List.mem_filter.mpr ⟨by decide +kernel, rfl⟩
theorem aTb_byte : Cond.arrayClass .byte ∈ aTb := List.mem_filter.mpr ⟨by decide +kernel, rfl⟩
theorem aTb_bool : Cond.arrayClass .boolean ∈ aTb := List.mem_filter.mpr ⟨by decide +kernel, rfl⟩
set_option maxHeartbeats 4000000 in
set_option maxRecDepth 100000 in
/-- ONE INSTRUCTION: what the abstract machine does, the machine does -/
theorem snd_sim {bs : Nat} {ex : Nat → Value} {κ : Nat → ClassId} {D : va_G} {b : Nat} {adK adV : Nat → Nat} {X : AX} {p : Program} {l : Launch} {e : Env} {R : Room} {s : State} {m : MethodId} {args : Array Value} {below : List Frame} {meth : Method} {c : Code} {H : Heap} {locs : List Loc} {cells slots : Nat} {Qs : State → Prop} {lsC : Array Slot}
    {mi j dn kc ks kc' ks' : Nat} {ls st ls' st' : List AV} {h h' : AH} {C : Option Prop} {t : Option Nat} {en : AE} (he : (mE mi)[j]? = some en) (hsim : sim X en.2.2.1 en.2.2.2.2 dn ls st h kc ks = some (C, t, ls', st', h', kc', ks')) (hC : aHolds C)
    (hat : aAt p s m args meth c mi) (hctx : aCtx bs ex κ D b adK adV X s) (hrc : cells + kc ≤ R.cells) (hrs : slots + ks ≤ R.slots) (hw : Wd bs ex κ D h H) (hS : va_S (A0 bs) s.heap H locs) (hl : lR bs ex (mA mi).2.2.1 ls lsC)
    (kk : ∀ (H1 : Heap) (locs1 : List Loc) (cells1 slots1 : Nat) (lsC1 : Array Slot), Wd bs ex κ D h' H1 → va_S (A0 bs) s.heap H1 locs1 → cells1 + kc' = cells + kc → slots1 + ks' = slots + ks → lR bs ex (mA mi).2.2.1 ls' lsC1 → W p l e R s m args below meth c H1 locs1 cells1 slots1 Qs (F0 m (pcAt (mE mi) (t.getD (j + 1))) lsC1 (st'.map (vV bs ex)))) :
    W p l e R s m args below meth c H locs cells slots Qs (F0 m (pcAt (mE mi) j) lsC (st.map (vV bs ex))) := by
  obtain ⟨o, pc, ins, len, aux⟩ := en
  have hd := dec_at he
  have hln := (okLs_at he).1
  have hpc := pcAt_eq he
  have hnx : okLast ins = false → pcAt (mE mi) (j + 1) = pc + len := fun q => pcAt_next he q
  obtain ⟨hs9, hok⟩ := okI_at he
  dsimp only at hd hln hpc hnx hok hsim
  obtain ⟨hx, hb, hml, hown, hname, hret, hlocks, hts⟩ := hat
  obtain ⟨hK, hbs, hex, ⟨hX, hbb, hex0⟩, ⟨hKS, hexK, hKR⟩, hZ1, hZ2, hAO, hNw, hκ⟩ := hctx
  rw [hpc]
  have hbA : ¬ A0 bs b := Nat.not_le.mpr hbb
  have hbl : b < s.heap.size := Nat.lt_of_lt_of_le hbb hbs
  obtain ⟨hP, hsz⟩ := hw
  have hD := wS_D bs ex κ h
  have hnL : ls.length = (mA mi).2.2.1 := hl.1
  cases ins with
  | iconst n =>
    obtain ⟨-, rfl, rfl, rfl, rfl, rfl, rfl⟩ := sPush_inv hsim
    have hlen : len = 1 := by simpa [okLn] using hln
    subst hlen
    have hnx := hnx rfl
    have k := kk H locs cells slots lsC ⟨hP, hsz⟩ hS rfl rfl hl
    rw [Option.getD_none, hnx] at k
    exact lv_iconst (v := Int32.ofInt n) hx hb hd rfl k
  | bipush n =>
    obtain ⟨-, rfl, rfl, rfl, rfl, rfl, rfl⟩ := sPush_inv hsim
    have hlen : len = 2 := by simpa [okLn] using hln
    subst hlen
    have hnx := hnx rfl
    have k := kk H locs cells slots lsC ⟨hP, hsz⟩ hS rfl rfl hl
    rw [Option.getD_none, hnx] at k
    exact lv_bipush (v := Int32.ofInt n) hx hb hd (by simpa [okI] using hok) k
  | sipush n =>
    obtain ⟨-, rfl, rfl, rfl, rfl, rfl, rfl⟩ := sPush_inv hsim
    have hlen : len = 3 := by simpa [okLn] using hln
    subst hlen
    have hnx := hnx rfl
    have k := kk H locs cells slots lsC ⟨hP, hsz⟩ hS rfl rfl hl
    rw [Option.getD_none, hnx] at k
    exact lv_sipush (v := Int32.ofInt n) hx hb hd (by simpa [okI] using hok) k
  | aconst_null =>
    obtain ⟨-, rfl, rfl, rfl, rfl, rfl, rfl⟩ := sPush_inv hsim
    have hlen : len = 1 := by simpa [okLn] using hln
    subst hlen
    have hnx := hnx rfl
    have k := kk H locs cells slots lsC ⟨hP, hsz⟩ hS rfl rfl hl
    rw [Option.getD_none, hnx] at k
    exact lv_null hx hb hd k
  | ldc i =>
    obtain ⟨rfl, rfl, rfl, rfl, rfl, hor⟩ := sLdc_inv hsim
    have hlen : len = 2 := by simpa [okLn] using hln
    subst hlen
    have hnx := hnx rfl
    have k := kk H locs cells slots lsC ⟨hP, hsz⟩ hS rfl rfl hl
    rw [Option.getD_none, hnx] at k
    rcases hor with ⟨v, rfl, rfl⟩ | ⟨i0, rfl, rfl⟩
    · exact lv_ldc hx hb hown (hts _ (aGw_in hok)) hd k
    · simp only [okI, Bool.and_eq_true, decide_eq_true_eq] at hok
      have hi8 : i0 < 8 := (List.getElem?_eq_some_iff.mp hok.2).1
      have hR := hKR i0 hi8
      rw [show aSIx.getD i0 0 = i by rw [List.getD_eq_getElem?_getD, hok.2]; rfl] at hR
      refine va_ldcS (own := "CrowningSeats$RuleReader") hx hb (by rw [← hok.1]; exact hown) hR hd ?_
      rw [← (hexK i0 hi8).1]
      exact k
  | ldc2_w i =>
    obtain ⟨v, rfl, rfl, rfl, rfl, rfl, rfl, rfl⟩ := sLdc2_inv hsim
    have hlen : len = 3 := by simpa [okLn] using hln
    subst hlen
    have hnx := hnx rfl
    have k := kk H locs cells slots lsC ⟨hP, hsz⟩ hS rfl rfl hl
    rw [Option.getD_none, hnx] at k
    exact lv_ldc2 hx hb hown (hts _ (aGw_in hok)) hd k
  | iload i =>
    obtain ⟨z, hz, rfl, rfl, rfl, rfl, rfl, rfl⟩ := sLoadI_inv hsim
    have hlen : len = 2 := by simpa [okLn] using hln
    subst hlen
    have hnx := hnx rfl
    have hr := hl.2.2.2 _ _ hz (by simp [jk])
    have k := kk H locs cells slots lsC ⟨hP, hsz⟩ hS rfl rfl hl
    rw [Option.getD_none, hnx] at k
    exact lv_iload hx hb hd hr k
  | iload_n i =>
    obtain ⟨z, hz, rfl, rfl, rfl, rfl, rfl, rfl⟩ := sLoadI_inv hsim
    have hlen : len = 1 := by simpa [okLn] using hln
    subst hlen
    have hnx := hnx rfl
    have hr := hl.2.2.2 _ _ hz (by simp [jk])
    have k := kk H locs cells slots lsC ⟨hP, hsz⟩ hS rfl rfl hl
    rw [Option.getD_none, hnx] at k
    exact lv_iload_n hx hb hd rfl hr k
  | lload_n i =>
    obtain ⟨z, hz, rfl, rfl, rfl, rfl, rfl, rfl⟩ := sLoadL_inv hsim
    have hlen : len = 1 := by simpa [okLn] using hln
    subst hlen
    have hnx := hnx rfl
    have hr := hl.2.2.2 _ _ hz (by simp [jk])
    have k := kk H locs cells slots lsC ⟨hP, hsz⟩ hS rfl rfl hl
    rw [Option.getD_none, hnx] at k
    exact lv_lload_n hx hb hd rfl hr k
  | aload i =>
    obtain ⟨v, hz, hjk, hor, rfl, rfl, rfl, rfl, rfl, rfl⟩ := sLoadA_inv hsim
    have hlen : len = 2 := by simpa [okLn] using hln
    subst hlen
    have hnx := hnx rfl
    have hr := hl.2.2.2 _ _ hz hjk
    have k := kk H locs cells slots lsC ⟨hP, hsz⟩ hS rfl rfl hl
    rw [Option.getD_none, hnx] at k
    rcases hor with ⟨r, rfl⟩ | ⟨j0, -, rfl⟩
    · cases r with
      | none => exact lv_aloadN hx hb hd  hr k
      | some q => exact lv_aload hx hb hd  hr k
    · rcases hex j0 with q | ⟨a, q⟩
      · have hr2 : lsC[_]? = some (Slot.val (ex j0)) := hr
        have k2 : W p l e R s m args below meth c H locs cells slots Qs (F0 m _ lsC (ex j0 :: st.map (vV bs ex))) := k
        rw [q] at hr2 k2
        exact lv_aloadN hx hb hd  hr2 k2
      · have hr2 : lsC[_]? = some (Slot.val (ex j0)) := hr
        have k2 : W p l e R s m args below meth c H locs cells slots Qs (F0 m _ lsC (ex j0 :: st.map (vV bs ex))) := k
        rw [q] at hr2 k2
        exact lv_aload hx hb hd  hr2 k2
  | aload_n i =>
    obtain ⟨v, hz, hjk, hor, rfl, rfl, rfl, rfl, rfl, rfl⟩ := sLoadA_inv hsim
    have hlen : len = 1 := by simpa [okLn] using hln
    subst hlen
    have hnx := hnx rfl
    have hr := hl.2.2.2 _ _ hz hjk
    have k := kk H locs cells slots lsC ⟨hP, hsz⟩ hS rfl rfl hl
    rw [Option.getD_none, hnx] at k
    rcases hor with ⟨r, rfl⟩ | ⟨j0, -, rfl⟩
    · cases r with
      | none => exact lv_aload_nN hx hb hd rfl hr k
      | some q => exact lv_aload_n hx hb hd rfl hr k
    · rcases hex j0 with q | ⟨a, q⟩
      · have hr2 : lsC[_]? = some (Slot.val (ex j0)) := hr
        have k2 : W p l e R s m args below meth c H locs cells slots Qs (F0 m _ lsC (ex j0 :: st.map (vV bs ex))) := k
        rw [q] at hr2 k2
        exact lv_aload_nN hx hb hd rfl hr2 k2
      · have hr2 : lsC[_]? = some (Slot.val (ex j0)) := hr
        have k2 : W p l e R s m args below meth c H locs cells slots Qs (F0 m _ lsC (ex j0 :: st.map (vV bs ex))) := k
        rw [q] at hr2 k2
        exact lv_aload_n hx hb hd rfl hr2 k2
  | istore i =>
    obtain ⟨z, r, rfl, hst, rfl, rfl, rfl, rfl, rfl, rfl⟩ := sStoreI_inv hsim
    have hlen : len = 2 := by simpa [okLn] using hln
    subst hlen
    have hnx := hnx rfl
    have hlt := aStok_lt hst
    refine lv_istore hx hb hd  hl.has (by rw [← hnL]; exact hlt) rfl (fun ls2 hl2 => ?_)
    have k := kk H locs cells slots ls2 ⟨hP, hsz⟩ hS rfl rfl (lR.store hex (v := .inl z) hl hst hl2)
    rw [Option.getD_none, hnx] at k
    exact k
  | istore_n i =>
    obtain ⟨z, r, rfl, hst, rfl, rfl, rfl, rfl, rfl, rfl⟩ := sStoreI_inv hsim
    have hlen : len = 1 := by simpa [okLn] using hln
    subst hlen
    have hnx := hnx rfl
    have hlt := aStok_lt hst
    refine lv_istore_n hx hb hd rfl hl.has (by rw [← hnL]; exact hlt) rfl (fun ls2 hl2 => ?_)
    have k := kk H locs cells slots ls2 ⟨hP, hsz⟩ hS rfl rfl (lR.store hex (v := .inl z) hl hst hl2)
    rw [Option.getD_none, hnx] at k
    exact k
  | astore i =>
    obtain ⟨z, r, rfl, hst, rfl, rfl, rfl, rfl, rfl, rfl⟩ := sStoreA_inv hsim
    have hlen : len = 2 := by simpa [okLn] using hln
    subst hlen
    have hnx := hnx rfl
    have hlt := aStok_lt hst
    cases z with
    | none =>
      refine lv_astoreN hx hb hd  hl.has (by rw [← hnL]; exact hlt) rfl (fun ls2 hl2 => ?_)
      have k := kk H locs cells slots ls2 ⟨hP, hsz⟩ hS rfl rfl (lR.store hex (v := .inr (.inr (.inl none))) hl hst hl2)
      rw [Option.getD_none, hnx] at k
      exact k
    | some q =>
      refine lv_astore hx hb hd  hl.has (by rw [← hnL]; exact hlt) rfl (fun ls2 hl2 => ?_)
      have k := kk H locs cells slots ls2 ⟨hP, hsz⟩ hS rfl rfl (lR.store hex (v := .inr (.inr (.inl (some q)))) hl hst hl2)
      rw [Option.getD_none, hnx] at k
      exact k
  | astore_n i =>
    obtain ⟨z, r, rfl, hst, rfl, rfl, rfl, rfl, rfl, rfl⟩ := sStoreA_inv hsim
    have hlen : len = 1 := by simpa [okLn] using hln
    subst hlen
    have hnx := hnx rfl
    have hlt := aStok_lt hst
    cases z with
    | none =>
      refine lv_astore_nN hx hb hd rfl hl.has (by rw [← hnL]; exact hlt) rfl (fun ls2 hl2 => ?_)
      have k := kk H locs cells slots ls2 ⟨hP, hsz⟩ hS rfl rfl (lR.store hex (v := .inr (.inr (.inl none))) hl hst hl2)
      rw [Option.getD_none, hnx] at k
      exact k
    | some q =>
      refine lv_astore_n hx hb hd rfl hl.has (by rw [← hnL]; exact hlt) rfl (fun ls2 hl2 => ?_)
      have k := kk H locs cells slots ls2 ⟨hP, hsz⟩ hS rfl rfl (lR.store hex (v := .inr (.inr (.inl (some q)))) hl hst hl2)
      rw [Option.getD_none, hnx] at k
      exact k
  | iinc i n =>
    obtain ⟨z, hz, hst, rfl, rfl, rfl, rfl, rfl, rfl⟩ := sInc_inv hsim
    have hlen : len = 3 := by simpa [okLn] using hln
    subst hlen
    have hnx := hnx rfl
    have hlt := aStok_lt hst
    obtain ⟨k0, hk0⟩ := List.getElem?_of_mem (lvOf_mem (bs := bs) (ex := ex) (q := (i, vV bs ex (.inl z))) |>.mpr ⟨_, hz, by simp [jk], rfl⟩)
    refine lv_iinc (v := Int32.ofInt (z + n)) hx hb hd hl.has hk0 (oI_add z n) (by rw [← hnL]; exact hlt) rfl (fun ls2 hl2 => ?_)
    have k := kk H locs cells slots ls2 ⟨hP, hsz⟩ hS rfl rfl (lR.store hex (v := .inl (z + n)) hl hst hl2)
    rw [Option.getD_none, hnx] at k
    exact k
  | iadd =>
    obtain ⟨a, b0, r, rfl, rfl, rfl, rfl, rfl, rfl, rfl⟩ := sBin_inv hsim
    have hlen : len = 1 := by simpa [okLn] using hln
    subst hlen
    have hnx := hnx rfl
    have k := kk H locs cells slots lsC ⟨hP, hsz⟩ hS rfl rfl hl
    rw [Option.getD_none, hnx] at k
    refine lv_iadd hx hb hd ?_
    rw [oI_add]
    exact k
  | isub =>
    obtain ⟨a, b0, r, rfl, rfl, rfl, rfl, rfl, rfl, rfl⟩ := sBin_inv hsim
    have hlen : len = 1 := by simpa [okLn] using hln
    subst hlen
    have hnx := hnx rfl
    have k := kk H locs cells slots lsC ⟨hP, hsz⟩ hS rfl rfl hl
    rw [Option.getD_none, hnx] at k
    refine lv_isub hx hb hd ?_
    rw [oI_sub]
    exact k
  | imul =>
    obtain ⟨a, b0, r, rfl, rfl, rfl, rfl, rfl, rfl, rfl⟩ := sBin_inv hsim
    have hlen : len = 1 := by simpa [okLn] using hln
    subst hlen
    have hnx := hnx rfl
    have k := kk H locs cells slots lsC ⟨hP, hsz⟩ hS rfl rfl hl
    rw [Option.getD_none, hnx] at k
    refine lv_imul hx hb hd ?_
    rw [oI_mul]
    exact k
  | iand =>
    obtain ⟨a, b0, r, rfl, rfl, rfl, rfl, rfl, rfl, rfl⟩ := sBin_inv hsim
    have hlen : len = 1 := by simpa [okLn] using hln
    subst hlen
    have hnx := hnx rfl
    have k := kk H locs cells slots lsC ⟨hP, hsz⟩ hS rfl rfl hl
    rw [Option.getD_none, hnx] at k
    refine lv_iand hx hb hd ?_
    have ee : Int32.ofInt (bAnd a b0) = _ := oI_toInt _
    rw [← ee]
    exact k
  | ior =>
    obtain ⟨a, b0, r, rfl, rfl, rfl, rfl, rfl, rfl, rfl⟩ := sBin_inv hsim
    have hlen : len = 1 := by simpa [okLn] using hln
    subst hlen
    have hnx := hnx rfl
    have k := kk H locs cells slots lsC ⟨hP, hsz⟩ hS rfl rfl hl
    rw [Option.getD_none, hnx] at k
    refine lv_ior hx hb hd ?_
    have ee : Int32.ofInt (bOr a b0) = _ := oI_toInt _
    rw [← ee]
    exact k
  | ixor =>
    obtain ⟨a, b0, r, rfl, rfl, rfl, rfl, rfl, rfl, rfl⟩ := sBin_inv hsim
    have hlen : len = 1 := by simpa [okLn] using hln
    subst hlen
    have hnx := hnx rfl
    have k := kk H locs cells slots lsC ⟨hP, hsz⟩ hS rfl rfl hl
    rw [Option.getD_none, hnx] at k
    refine lv_ixor hx hb hd ?_
    have ee : Int32.ofInt (bXor a b0) = _ := oI_toInt _
    rw [← ee]
    exact k
  | ishl =>
    obtain ⟨a, b0, r, rfl, rfl, rfl, rfl, rfl, rfl, rfl⟩ := sBin_inv hsim
    have hlen : len = 1 := by simpa [okLn] using hln
    subst hlen
    have hnx := hnx rfl
    have k := kk H locs cells slots lsC ⟨hP, hsz⟩ hS rfl rfl hl
    rw [Option.getD_none, hnx] at k
    refine lv_ishl hx hb hd ?_
    have ee : Int32.ofInt (bShl a b0) = _ := oI_toInt _
    rw [← ee]
    exact k
  | ishr =>
    obtain ⟨a, b0, r, rfl, rfl, rfl, rfl, rfl, rfl, rfl⟩ := sBin_inv hsim
    have hlen : len = 1 := by simpa [okLn] using hln
    subst hlen
    have hnx := hnx rfl
    have k := kk H locs cells slots lsC ⟨hP, hsz⟩ hS rfl rfl hl
    rw [Option.getD_none, hnx] at k
    refine lv_ishr hx hb hd ?_
    have ee : Int32.ofInt (bShr a b0) = _ := oI_toInt _
    rw [← ee]
    exact k
  | iushr =>
    obtain ⟨a, b0, r, rfl, rfl, rfl, rfl, rfl, rfl, rfl⟩ := sBin_inv hsim
    have hlen : len = 1 := by simpa [okLn] using hln
    subst hlen
    have hnx := hnx rfl
    have k := kk H locs cells slots lsC ⟨hP, hsz⟩ hS rfl rfl hl
    rw [Option.getD_none, hnx] at k
    exact lv_iushr hx hb hd (oI_toInt _).symm k
  | ineg =>
    obtain ⟨a, r, rfl, rfl, rfl, rfl, rfl, rfl, rfl⟩ := sUn_inv hsim
    have hlen : len = 1 := by simpa [okLn] using hln
    subst hlen
    have hnx := hnx rfl
    have k := kk H locs cells slots lsC ⟨hP, hsz⟩ hS rfl rfl hl
    rw [Option.getD_none, hnx] at k
    refine lv_ineg hx hb hd ?_
    rw [oI_neg]
    exact k
  | i2b =>
    obtain ⟨a, r, rfl, rfl, rfl, rfl, rfl, rfl, rfl⟩ := sUn_inv hsim
    have hlen : len = 1 := by simpa [okLn] using hln
    subst hlen
    have hnx := hnx rfl
    have k := kk H locs cells slots lsC ⟨hP, hsz⟩ hS rfl rfl hl
    rw [Option.getD_none, hnx] at k
    exact lv_i2b hx hb hd (oI_toInt _).symm k
  | i2c =>
    obtain ⟨a, r, rfl, rfl, rfl, rfl, rfl, rfl, rfl⟩ := sUn_inv hsim
    have hlen : len = 1 := by simpa [okLn] using hln
    subst hlen
    have hnx := hnx rfl
    have k := kk H locs cells slots lsC ⟨hP, hsz⟩ hS rfl rfl hl
    rw [Option.getD_none, hnx] at k
    exact lv_i2c hx hb hd (oI_toInt _).symm k
  | idiv =>
    obtain ⟨a, b0, r, rfl, rfl, rfl, rfl, rfl, rfl, rfl, rfl⟩ := sDiv_inv hsim
    have hlen : len = 1 := by simpa [okLn] using hln
    subst hlen
    have hnx := hnx rfl
    obtain ⟨ha, hb0, hne, -⟩ := hC
    have k := kk H locs cells slots lsC ⟨hP, hsz⟩ hS rfl rfl hl
    rw [Option.getD_none, hnx] at k
    refine lv_idiv hx hb hd (fun q => hne ((oI_eq hb0 inR_0).mp (q.trans oI_0.symm))) ?_
    rw [oI_div a b0 ha hb0]
    exact k
  | lushr =>
    obtain ⟨a, b0, r, rfl, rfl, rfl, rfl, rfl, rfl, rfl⟩ := sLushr_inv hsim
    have hlen : len = 1 := by simpa [okLn] using hln
    subst hlen
    have hnx := hnx rfl
    have k := kk H locs cells slots lsC ⟨hP, hsz⟩ hS rfl rfl hl
    rw [Option.getD_none, hnx] at k
    exact lv_lushr hx hb hd (Int64.ofInt_toInt _).symm k
  | land =>
    obtain ⟨a, b0, r, rfl, rfl, rfl, rfl, rfl, rfl, rfl⟩ := sLand_inv hsim
    have hlen : len = 1 := by simpa [okLn] using hln
    subst hlen
    have hnx := hnx rfl
    have k := kk H locs cells slots lsC ⟨hP, hsz⟩ hS rfl rfl hl
    rw [Option.getD_none, hnx] at k
    refine lv_land hx hb hd ?_
    have ee : Int64.ofInt (lAnd a b0) = _ := Int64.ofInt_toInt _
    rw [← ee]
    exact k
  | l2i =>
    obtain ⟨a, r, rfl, rfl, rfl, rfl, rfl, rfl, rfl⟩ := sL2i_inv hsim
    have hlen : len = 1 := by simpa [okLn] using hln
    subst hlen
    have hnx := hnx rfl
    have k := kk H locs cells slots lsC ⟨hP, hsz⟩ hS rfl rfl hl
    rw [Option.getD_none, hnx] at k
    exact lv_l2i hx hb hd (oI_toInt _).symm k
  | dup =>
    obtain ⟨v, r, rfl, hv, rfl, rfl, rfl, rfl, rfl, rfl⟩ := sDup_inv hsim
    have hlen : len = 1 := by simpa [okLn] using hln
    subst hlen
    have hnx := hnx rfl
    have k := kk H locs cells slots lsC ⟨hP, hsz⟩ hS rfl rfl hl
    rw [Option.getD_none, hnx] at k
    exact lv_dup hx hb hd (vV_cat hex hv) k
  | dup2 =>
    obtain ⟨v, w, r, rfl, hv, hv2, rfl, rfl, rfl, rfl, rfl, rfl⟩ := sDup2_inv hsim
    have hlen : len = 1 := by simpa [okLn] using hln
    subst hlen
    have hnx := hnx rfl
    have k := kk H locs cells slots lsC ⟨hP, hsz⟩ hS rfl rfl hl
    rw [Option.getD_none, hnx] at k
    exact lv_dup2_11 hx hb hd (vV_cat hex hv) (vV_cat hex hv2) k
  | pop =>
    obtain ⟨v, r, rfl, hv, rfl, rfl, rfl, rfl, rfl, rfl⟩ := sPop_inv hsim
    have hlen : len = 1 := by simpa [okLn] using hln
    subst hlen
    have hnx := hnx rfl
    have k := kk H locs cells slots lsC ⟨hP, hsz⟩ hS rfl rfl hl
    rw [Option.getD_none, hnx] at k
    exact lv_pop hx hb hd (vV_cat hex hv) k
  | arraylength =>
    obtain ⟨v, r, n, rfl, rfl, rfl, rfl, rfl, rfl, rfl, hor⟩ := sLen_inv hsim
    have hlen : len = 1 := by simpa [okLn] using hln
    subst hlen
    have hnx := hnx rfl
    have k := kk H locs cells slots lsC ⟨hP, hsz⟩ hS rfl rfl hl
    rw [Option.getD_none, hnx] at k
    rcases hor with ⟨q, t0, n0, f, rfl, hq, rfl⟩ | ⟨q, n0, f, rfl, hq, rfl⟩ | ⟨rfl, rfl⟩ | ⟨i, hi, rfl, rfl⟩
    · rcases (show t0 = 0 ∨ t0 = 1 ∨ t0 = 2 ∨ (t0 ≠ 0 ∧ t0 ≠ 1 ∧ t0 ≠ 2) by omega) with rfl | rfl | rfl | hn
      · exact va_alen hx hb hK hP q 0 (wS_get hq) (ty := .int) rfl (oI_nat _) hd k
      · exact va_alen hx hb hK hP q 1 (wS_get hq) (ty := .byte) rfl (oI_nat _) hd k
      · exact va_alen hx hb hK hP q 2 (wS_get hq) (ty := .boolean) rfl (oI_nat _) hd k
      · rcases (show t0 = 3 ∨ 4 ≤ t0 by omega) with rfl | h4
        · exact va_alen hx hb hK hP q 3 (wS_get hq) (ty := .object "CrowningSeats$Bench") rfl (oI_nat _) hd k
        · exact va_alen hx hb hK hP q 0 (wS_get hq) (ty := .int) (by show some (κ 0, FieldType.int) = some (κ t0, .int); rw [hκ t0 h4]) (oI_nat _) hd k
    · exact va_alen hx hb hK hP q 3 (wS_get hq) (ty := .object "CrowningSeats$Bench") rfl (oI_nat _) hd k
    · have hv : vV bs ex (.inr (.inr (.inr 0))) = .ref b := hex0
      show W p l e R s m args below meth c H locs cells slots Qs (F0 m pc lsC (vV bs ex (.inr (.inr (.inr 0))) :: _))
      rw [hv]
      refine va_slen hx hb hX hbl hbA hS hd ?_
      rw [oI_nat]
      exact k
    · have hv : vV bs ex (.inr (.inr (.inr (i + 100)))) = .ref (adV i) := (hexK i hi).2
      show W p l e R s m args below meth c H locs cells slots Qs (F0 m pc lsC (vV bs ex (.inr (.inr (.inr (i + 100)))) :: _))
      rw [hv]
      exact va_tlen hx hb (hKS.1 i hi).2.2.2 hS (oI_nat _) hd k
  | iaload =>
    obtain ⟨i, r, rfl, rfl, rfl, rfl, rfl, hor⟩ := sILd_inv hsim
    have hlen : len = 1 := by simpa [okLn] using hln
    subst hlen
    have hnx := hnx rfl
    have k := kk H locs cells slots lsC ⟨hP, hsz⟩ hS rfl rfl hl
    rw [Option.getD_none, hnx] at k
    rcases hor with ⟨q, n, f, rfl, hq, rfl, rfl⟩ | ⟨rfl, rfl, rfl⟩
    · obtain ⟨h1, h2, h3⟩ := oI_ix hC
      refine va_iald hx hb hK hP q 0 (wS_get hq) rfl h1 hd ?_
      rw [h2, h3]
      exact k
    · obtain ⟨h1, h2, h3⟩ := oI_ix hC
      show W p l e R s m args below meth c H locs cells slots Qs (F0 m pc lsC (.int (Int32.ofInt i) :: ex 0 :: _))
      rw [hex0]
      refine va_sld hx hb hX hbl hbA hS h1 hd ?_
      rw [h2, h3]
      exact k
  | baload =>
    obtain ⟨i, r, rfl, rfl, rfl, rfl, rfl, hor⟩ := sBLd_inv hsim
    have hlen : len = 1 := by simpa [okLn] using hln
    subst hlen
    have hnx := hnx rfl
    have k := kk H locs cells slots lsC ⟨hP, hsz⟩ hS rfl rfl hl
    rw [Option.getD_none, hnx] at k
    rcases hor with ⟨q, n, f, t0, ht0, rfl, hq, rfl, rfl⟩ | ⟨q, hq, rfl, rfl, rfl⟩
    · obtain ⟨h1, h2, h3⟩ := oI_ix hC
      rcases ht0 with rfl | rfl
      · refine va_bald hx hb hK hP q 1 (wS_get hq) rfl h1 hd ?_
        rw [h2, h3]
        exact k
      · refine va_zald hx hb hK hP q 2 (wS_get hq) rfl h1 hd ?_
        rw [h2, h3]
        exact k
    · obtain ⟨h1, h2, h3⟩ := oI_ix hC
      show W p l e R s m args below meth c H locs cells slots Qs (F0 m pc lsC (.int (Int32.ofInt i) :: ex (q + 100) :: _))
      rw [(hexK q hq).2]
      rw [aLen_eq q hq] at h1
      have hlt : i.toNat < aLen.getD q 0 := by have := hC.2.1; rw [aLen_eq q hq] at this; omega
      refine va_tb hx hb (hKS.1 q hq).2.2.2 hS h1 (v := .int (Int32.ofInt ((aSL q).getD i.toNat 0))) ?_ hd k
      rw [h2, aByt_eq q hq _ hlt]
  | aaload =>
    obtain ⟨i, r, q, n, f, rfl, rfl, rfl, rfl, rfl, rfl, hq, rfl, rfl⟩ := sALd_inv hsim
    have hlen : len = 1 := by simpa [okLn] using hln
    subst hlen
    have hnx := hnx rfl
    have k := kk H locs cells slots lsC ⟨hP, hsz⟩ hS rfl rfl hl
    rw [Option.getD_none, hnx] at k
    obtain ⟨h1, h2, h3⟩ := oI_ix hC
    refine va_aldq hx hb hK hP q 3 (wS_get hq) rfl h1 hd ?_
    rw [h2, h3]
    have ee : va_rf ((f i).map (fun k => bs + k)) = vV bs ex (.inr (.inr (.inl (f i)))) := by cases f i <;> rfl
    rw [ee]
    exact k
  | iastore =>
    obtain ⟨v, i, r, q, n, f, rfl, rfl, rfl, rfl, rfl, hq, rfl, rfl, rfl⟩ := sISt_inv hsim
    have hlen : len = 1 := by simpa [okLn] using hln
    subst hlen
    have hnx := hnx rfl
    obtain ⟨h1, h2, h3⟩ := oI_ix hC
    refine x_iast hx hb hK hP hD hS q 0 (wS_get hq) rfl h1 hd (fun H1 locs1 z1 hP1 hS1 => ?_)
    rw [h2, ← aUp_nat h3] at hP1
    have hP2 : va_P D aCl ((wS bs ex κ h).set q (bs + q, cC bs ex κ (.inl (0, n, aUp f i v)))) H1 := hP1
    rw [wS_set] at hP2
    have k := kk H1 locs1 cells slots lsC ⟨hP2, by rw [z1, List.length_set]; exact hsz⟩ hS1 rfl rfl hl
    rw [Option.getD_none, hnx] at k
    exact k
  | bastore =>
    obtain ⟨v, i, r, q, n, f, rfl, rfl, rfl, rfl, rfl, rfl, hor⟩ := sBSt_inv hsim
    have hlen : len = 1 := by simpa [okLn] using hln
    subst hlen
    have hnx := hnx rfl
    rcases hor with ⟨hq, rfl, rfl⟩ | ⟨hq, rfl, rfl⟩
    · obtain ⟨h1, h2, h3⟩ := oI_ix hC
      refine x_bast hx hb hK hP hD hS q 1 (wS_get hq) rfl h1 hd (fun H1 locs1 z1 hP1 hS1 => ?_)
      have ee : Int32.ofInt (bByte v) = (Int32.ofInt v).toInt8.toInt32 := oI_toInt _
      rw [h2, ← ee, ← aUp_nat h3] at hP1
      have hP2 : va_P D aCl ((wS bs ex κ h).set q (bs + q, cC bs ex κ (.inl (1, n, aUp f i (bByte v))))) H1 := hP1
      rw [wS_set] at hP2
      have k := kk H1 locs1 cells slots lsC ⟨hP2, by rw [z1, List.length_set]; exact hsz⟩ hS1 rfl rfl hl
      rw [Option.getD_none, hnx] at k
      exact k
    · obtain ⟨hC, hv01⟩ := hC
      obtain ⟨h1, h2, h3⟩ := oI_ix hC
      refine x_zast hx hb hK hP hD hS q 2 (wS_get hq) rfl h1 hd (fun H1 locs1 z1 hP1 hS1 => ?_)
      have ee : Int32.ofInt v &&& 1 = Int32.ofInt v := by rcases hv01 with rfl | rfl <;> decide +kernel
      rw [h2, ee, ← aUp_nat h3] at hP1
      have hP2 : va_P D aCl ((wS bs ex κ h).set q (bs + q, cC bs ex κ (.inl (2, n, aUp f i v)))) H1 := hP1
      rw [wS_set] at hP2
      have k := kk H1 locs1 cells slots lsC ⟨hP2, by rw [z1, List.length_set]; exact hsz⟩ hS1 rfl rfl hl
      rw [Option.getD_none, hnx] at k
      exact k
  | aastore =>
    obtain ⟨v, i, r, q, n, f, fs, rfl, rfl, rfl, rfl, rfl, hq, hv, rfl, rfl, rfl⟩ := sASt_inv hsim
    have hlen : len = 1 := by simpa [okLn] using hln
    subst hlen
    have hnx := hnx rfl
    obtain ⟨h1, h2, h3⟩ := oI_ix hC
    refine x_astq hx hb hK hP hD hS q 3 v 0 (r := (RX0, TX0, 7)) (wS_get hq) rfl (wS_get hv) rfl h1 hd (fun H1 locs1 z1 hP1 hS1 => ?_)
    rw [h2, ← aUp_natQ h3] at hP1
    have hP2 : va_P D aCl ((wS bs ex κ h).set q (bs + q, cC bs ex κ (.inr (.inl (n, aUp f i (some v)))))) H1 := hP1
    rw [wS_set] at hP2
    have k := kk H1 locs1 cells slots lsC ⟨hP2, by rw [z1, List.length_set]; exact hsz⟩ hS1 rfl rfl hl
    rw [Option.getD_none, hnx] at k
    exact k
  | newarray ty =>
    have hlen : len = 2 := by simpa [okLn] using hln
    subst hlen
    have hnx := hnx rfl
    have go : ∀ (a : Nat) (hcA : s.vm.findClass ("[" ++ (newarray.typeOf ty).toString) = some (κ a)) (harr : (Cond.arrayClass (newarray.typeOf ty)).before args s = true) (hcb : componentBytes (newarray.typeOf ty) ≤ 8) (hdf : defaultValue (newarray.typeOf ty) = .int 0), sNewA a ls st h kc ks = some (C, t, ls', st', h', kc', ks') → W p l e R s m args below meth c H locs cells slots Qs (F0 m pc lsC (st.map (vV bs ex))) := by
      intro a hcA harr hcb hdf hsim
      obtain ⟨n, r, rfl, rfl, rfl, rfl, rfl, rfl, rfl, rfl⟩ := sNewA_inv hsim
      obtain ⟨g1, g2, g3, g4⟩ := hC
      have hr : inR n := ⟨by omega, by omega⟩
      have hN : (Int32.ofInt n).toNatClampNeg = n.toNat := by show (Int32.ofInt n).toInt.toNat = n.toNat; rw [oI_in hr]
      have hn0 : ¬ Int32.ofInt n < 0 := oI_nneg hr g1
      have hby : n.toNat * componentBytes (newarray.typeOf ty) ≤ 536870912 := Nat.le_trans (Nat.mul_le_mul_left _ hcb) (by omega)
      refine x_newa hx hb harr hcA hP hS (a0 := (n.toNat, .inl (fun _ => 0))) (by rw [hdf]; rfl) hn0 hN hby (by omega) (by omega) hd (fun H1 z1 hP1 hS1 => ?_)
      rw [hsz] at hP1 z1 ⊢
      have e0 : (fun _ : Nat => (0 : Int32)) = (fun j : Nat => Int32.ofInt ((fun _ : Int => (0 : Int)) (j : Int))) := by funext _; exact oI_0.symm
      have hP2 : va_P D aCl (wS bs ex κ h ++ [(bs + h.length, cC bs ex κ (.inl (a, n.toNat, fun _ => 0)))]) H1 := by
        show va_P D aCl (wS bs ex κ h ++ [(bs + h.length, .inl (κ a, n.toNat, .inl (fun j : Nat => Int32.ofInt ((fun _ : Int => (0 : Int)) (j : Int)))))]) H1
        rw [← e0]; exact hP1
      rw [wS_push] at hP2
      have k := kk H1 locs (cells + 1) (slots + n.toNat) lsC ⟨hP2, by rw [z1, List.length_append]; rfl⟩ hS1 (by omega) (by omega) hl
      rw [Option.getD_none, hnx] at k
      exact k
    have harr : ∀ ty0, (Cond.arrayClass ty0) ∈ aTb → (Cond.arrayClass ty0).before args s = true := fun ty0 q => hts _ q
    cases ty with
    | int => exact go 0 (hK.2 0 _ rfl).2 (harr _ aTb_int) (by decide) rfl hsim
    | byte => exact go 1 (hK.2 1 _ rfl).2 (harr _ aTb_byte) (by decide) rfl hsim
    | boolean => exact go 2 (hK.2 2 _ rfl).2 (harr _ aTb_bool) (by decide) rfl hsim
    | _ => exact absurd hsim (by simp [sim])
  | anewarray i =>
    obtain ⟨n, r, rfl, rfl, rfl, rfl, rfl, rfl, rfl, rfl⟩ := sNewQ_inv hsim
    have hlen : len = 3 := by simpa [okLn] using hln
    subst hlen
    have hnx := hnx rfl
    obtain ⟨g1, g2, g3, g4⟩ := hC
    have hr : inR n := ⟨by omega, by omega⟩
    have hN : (Int32.ofInt n).toNatClampNeg = n.toNat := by show (Int32.ofInt n).toInt.toNat = n.toNat; rw [oI_in hr]
    have hn0 : ¬ Int32.ofInt n < 0 := oI_nneg hr g1
    obtain ⟨kA, comp, -, -, -, hcA⟩ := (hK.2 3 _ rfl).2
    refine x_newq hx hb hown (hts _ (aGw_in hok)) hAO hcA hP hS hn0 hN (by omega) (by omega) (by omega) hd (fun H1 z1 hP1 hS1 => ?_)
    rw [hsz] at hP1 z1 ⊢
    have hP2 : va_P D aCl (wS bs ex κ h ++ [(bs + h.length, cC bs ex κ (.inr (.inl (n.toNat, fun _ => none))))]) H1 := hP1
    rw [wS_push] at hP2
    have k := kk H1 locs (cells + 1) (slots + n.toNat) lsC ⟨hP2, by rw [z1, List.length_append]; rfl⟩ hS1 (by omega) (by omega) hl
    rw [Option.getD_none, hnx] at k
    exact k
  | new i =>
    obtain ⟨c0, rfl, rfl, rfl, rfl, rfl, rfl, rfl, rfl⟩ := sNew_inv hsim
    have hlen : len = 3 := by simpa [okLn] using hln
    subst hlen
    have hnx := hnx rfl
    obtain ⟨g1, g2⟩ := hC
    simp only [okI] at hok
    cases hc0 : aCl[c0]? with
    | none => rw [hc0] at hok; cases hok
    | some x =>
      obtain ⟨C0, T0, N0⟩ := x
      rw [hc0] at hok
      simp only [Bool.and_eq_true] at hok
      obtain ⟨w1, w2, w3⟩ := okCl_all c0 C0 T0 N0 hc0
      obtain ⟨hN, hc13⟩ := aN_eq hc0
      rw [hN] at g2
      refine x_new hx hb hts w1 (aTy.getD c0 tyX0) w2 hown (hts _ (aGw_in hok.1.1)) (hts _ (aGw_in hok.1.2)) (hts _ (aGw_in hok.2)) hK hP hS hc0 (fs := (aDefs c0).map (vV bs ex)) (aDefs_ok hc13 hN) (by omega) (by omega) hd (fun H1 z1 hP1 hS1 => ?_)
      rw [hsz] at hP1 z1 ⊢
      have hP2 : va_P D aCl (wS bs ex κ h ++ [(bs + h.length, cC bs ex κ (.inr (.inr (c0, aDefs c0))))]) H1 := hP1
      rw [wS_push] at hP2
      have k := kk H1 locs (cells + 1) (slots + N0) lsC ⟨hP2, by rw [z1, List.length_append]; rfl⟩ hS1 (by omega) (by rw [hN]; omega) hl
      rw [Option.getD_none, hnx] at k
      exact k
  | getfield i =>
    obtain ⟨v, r, rfl, rfl, rfl, rfl, rfl, rfl, hor⟩ := sGet_inv hsim
    have hlen : len = 3 := by simpa [okLn] using hln
    subst hlen
    have hnx := hnx rfl
    have k := kk H locs cells slots lsC ⟨hP, hsz⟩ hS rfl rfl hl
    rw [Option.getD_none, hnx] at k
    rcases hor with ⟨c0, k0, f0, q, fs, rfl, rfl, hq, hv⟩ | ⟨i0, hi0, rfl, hor⟩
    · simp only [okI, okF] at hok
      cases hc0 : aCl[c0]? with
      | none => rw [hc0] at hok; cases hok
      | some x =>
        obtain ⟨C0, T0, N0⟩ := x
        rw [hc0] at hok
        simp only [Bool.and_eq_true, decide_eq_true_eq] at hok
        obtain ⟨w1, w2, w3⟩ := okCl_all c0 C0 T0 N0 hc0
        exact va_get hx hb hts w1 hown hK hP q (wS_get hq) hc0 k0 hok.1 (hts _ (aGw_in hok.2)) (fun _ h9 => h9) (v := vV bs ex v) (by rw [List.getElem?_map, hv]; rfl) hd k
    · show W p l e R s m args below meth c H locs cells slots Qs (F0 m pc lsC (ex (i0 + 1) :: _))
      rw [(hexK i0 hi0).1]
      rcases hor with ⟨rfl, rfl⟩ | ⟨k0, hk0, rfl, rfl⟩
      · have k2 : W p l e R s m args below meth c H locs cells slots Qs (F0 m (pc + 3) lsC (ex (i0 + 100) :: r.map (vV bs ex))) := k
        rw [(hexK i0 hi0).2] at k2
        exact vk_getf hx hb (hKS.1 i0 hi0).2.2.1 hS hown (hts _ (aGw_in hok)) (fun _ h9 => h9) hd k2
      · have hk1 : k0 = 1 := by
          rcases (show k0 = 1 ∨ 2 ≤ k0 by omega) with q | q
          · exact q
          · obtain ⟨k2, rfl⟩ : ∃ k2, k0 = k2 + 2 := ⟨k0 - 2, by omega⟩
            simp [okI] at hok
        subst hk1
        exact vk_getf hx hb (hKS.1 i0 hi0).2.1 hS hown (hts _ (aGw_in hok)) (fun _ h9 => h9) hd k
  | putfield i =>
    obtain ⟨c0, k0, f0, v, q, fs, r, rfl, rfl, hq, hlt, hfit, rfl, rfl, rfl, rfl, rfl, rfl⟩ := sPut_inv hsim
    have hlen : len = 3 := by simpa [okLn] using hln
    subst hlen
    have hnx := hnx rfl
    simp only [okI, okF, okP] at hok
    cases hc0 : aCl[c0]? with
    | none => rw [hc0] at hok; cases hok
    | some x =>
      obtain ⟨C0, T0, N0⟩ := x
      rw [hc0] at hok
      simp only [Bool.and_eq_true, decide_eq_true_eq] at hok
      obtain ⟨w1, w2, w3⟩ := okCl_all c0 C0 T0 N0 hc0
      obtain ⟨hn, hf⟩ := aFit_ok (bs := bs) (ex := ex) hfit hC
      have hfin : (T0 k0).2.2.2 = false ∨ ((T0 k0).2.2.2 = true ∧ meth.name = "<init>" ∧ (T0 k0).1 = (mA mi).1.cls) := by
        have h2 := hok.2
        split at h2
        · left; simpa using h2
        · right
          simp only [Bool.and_eq_true, decide_eq_true_eq] at h2
          exact ⟨h2.1.1, by rw [hname]; exact h2.1.2, h2.2⟩
      refine x_put hx hb hts w1 (aTy.getD c0 tyX0) w2 w3 hown hK hP hD hS q (wS_get hq) hc0 k0 hok.1.1 (hts _ (aGw_in hok.1.2)) hfin hn hf (by rw [List.length_map]; exact hlt) hd (fun H1 locs1 z1 hP1 hS1 => ?_)
      have hP2 : va_P D aCl ((wS bs ex κ h).set q (bs + q, cC bs ex κ (.inr (.inr (c0, fs.set k0 v))))) H1 := by
        show va_P D aCl ((wS bs ex κ h).set q (bs + q, .inr (c0, (fs.set k0 v).map (vV bs ex)))) H1
        rw [List.map_set]; exact hP1
      rw [wS_set] at hP2
      have k := kk H1 locs1 cells slots lsC ⟨hP2, by rw [z1, List.length_set]; exact hsz⟩ hS1 rfl rfl hl
      rw [Option.getD_none, hnx] at k
      exact k
  | getstatic i =>
    obtain ⟨rfl, rfl, rfl, rfl, rfl, hor⟩ := sStat_inv hsim
    have hlen : len = 3 := by simpa [okLn] using hln
    subst hlen
    have hnx := hnx rfl
    have k := kk H locs cells slots lsC ⟨hP, hsz⟩ hS rfl rfl hl
    rw [Option.getD_none, hnx] at k
    rcases hor with ⟨rfl, rfl⟩ | ⟨rfl, rfl⟩
    · exact va_gets hx hb hZ1 hS hown (hts _ (aGw_in hok)) (fun _ h9 => h9) hd k
    · exact va_gets hx hb hZ2 hS hown (hts _ (aGw_in hok)) (fun _ h9 => h9) hd k
  | goto off =>
    obtain ⟨t0, rfl, rfl, rfl, rfl, rfl, rfl, rfl⟩ := sGoto_inv hsim
    have hlen : len = 3 := by simpa [okLn] using hln
    subst hlen
    have k := kk H locs cells slots lsC ⟨hP, hsz⟩ hS rfl rfl hl
    exact lv_goto hx hb hd (okT_spec hok) k
  | ifCond c0 off =>
    obtain ⟨x, r, t0, rfl, rfl, rfl, rfl, rfl, rfl, rfl, hor⟩ := sIf_inv hsim
    have hlen : len = 3 := by simpa [okLn] using hln
    subst hlen
    have hnx := hnx rfl
    have k := kk H locs cells slots lsC ⟨hP, hsz⟩ hS rfl rfl hl
    rcases hor with ⟨rfl, rfl⟩ | ⟨rfl, rfl⟩
    · rw [Option.getD_none, hnx] at k
      exact x_if hx hb hC.1 hd (okT_spec hok) (fun q => absurd q hC.2) (fun _ => k)
    · exact x_if hx hb hC.1 hd (okT_spec hok) (fun _ => k) (fun q => absurd hC.2 q)
  | if_icmp c0 off =>
    obtain ⟨x, y, r, t0, rfl, rfl, rfl, rfl, rfl, rfl, rfl, hor⟩ := sCmp_inv hsim
    have hlen : len = 3 := by simpa [okLn] using hln
    subst hlen
    have hnx := hnx rfl
    have k := kk H locs cells slots lsC ⟨hP, hsz⟩ hS rfl rfl hl
    rcases hor with ⟨rfl, rfl⟩ | ⟨rfl, rfl⟩
    · rw [Option.getD_none, hnx] at k
      exact x_cmp hx hb hC.1 hC.2.1 hd (okT_spec hok) (fun q => absurd q hC.2.2) (fun _ => k)
    · exact x_cmp hx hb hC.1 hC.2.1 hd (okT_spec hok) (fun _ => k) (fun q => absurd hC.2.2 q)
  | ifnull off =>
    obtain ⟨o0, r, t0, rfl, rfl, rfl, rfl, rfl, rfl, rfl, hor⟩ := sNull_inv hsim
    have hlen : len = 3 := by simpa [okLn] using hln
    subst hlen
    have hnx := hnx rfl
    have k := kk H locs cells slots lsC ⟨hP, hsz⟩ hS rfl rfl hl
    rcases hor with ⟨rfl, rfl⟩ | ⟨q, rfl, rfl⟩
    · exact lv_ifnullN hx hb hd (okT_spec hok) k
    · rw [if_pos rfl, Option.getD_none, hnx] at k
      exact lv_ifnull hx hb hd k
  | ifnonnull off =>
    obtain ⟨o0, r, t0, rfl, rfl, rfl, rfl, rfl, rfl, rfl, hor⟩ := sNull_inv hsim
    have hlen : len = 3 := by simpa [okLn] using hln
    subst hlen
    have hnx := hnx rfl
    have k := kk H locs cells slots lsC ⟨hP, hsz⟩ hS rfl rfl hl
    rcases hor with ⟨rfl, rfl⟩ | ⟨q, rfl, rfl⟩
    · rw [if_neg (by decide), Option.getD_none, hnx] at k
      exact lv_ifnonnullN hx hb hd k
    · exact lv_ifnonnull hx hb hd (okT_spec hok) k
  | tableswitch dflt lo hi offs =>
    obtain ⟨x, r, t0, ts, rfl, rfl, rfl, rfl, rfl, rfl, rfl, hor⟩ := sTab_inv hsim
    have k := kk H locs cells slots lsC ⟨hP, hsz⟩ hS rfl rfl hl
    simp only [okI, Bool.and_eq_true, decide_eq_true_eq, List.all_eq_true, List.mem_range] at hok
    obtain ⟨⟨⟨g1, g2⟩, g3⟩, g4⟩ := hok
    rcases hor with ⟨t1, ht1, rfl, rfl⟩ | ⟨rfl, rfl⟩
    · obtain ⟨hr, rfl⟩ := hC
      have hdn : dn < ts.length := (List.getElem?_eq_some_iff.mp ht1).1
      have g5 := okT_spec (g4 dn hdn)
      rw [show ts.getD dn 0 = t1 by rw [List.getD_eq_getElem?_getD, ht1]; rfl] at g5
      refine lv_tableIn (off := offs.toList.getD dn 0) hx hb hd (by rw [oI_in hr]; omega) (by rw [oI_in hr]; omega) ?_ g5 k
      rw [oI_in hr, show (lo + (dn : Int) - lo).toNat = dn by omega, ← Array.getElem?_toList, List.getD_eq_getElem?_getD, List.getElem?_eq_getElem (by omega)]
      rfl
    · exact lv_tableOut hx hb hd (by rw [oI_in hC.1]; exact hC.2) (okT_spec g1) k
  | lookupswitch dflt ps =>
    obtain ⟨x, r, t0, t1, t2, k1, o1, k2, o2, rfl, rfl, hps, rfl, rfl, rfl, rfl, rfl, hor⟩ := sLook_inv hsim
    have k := kk H locs cells slots lsC ⟨hP, hsz⟩ hS rfl rfl hl
    simp only [okI] at hok
    rw [hps] at hok
    simp only [Bool.and_eq_true, decide_eq_true_eq] at hok
    obtain ⟨⟨⟨⟨⟨g1, g2⟩, g3⟩, g4⟩, g5⟩, g6⟩ := hok
    have hzip : (ps.toList.zip (ps.toList.drop 1)).all (fun (a, next) => a.1 < next.1) = true := by rw [hps]; simpa using g1
    rcases hor with ⟨rfl, rfl⟩ | ⟨rfl, rfl⟩ | ⟨rfl, rfl⟩
    · obtain ⟨hr, rfl⟩ := hC
      refine lv_lookup (off := o1) hx hb hd hzip ?_ (okT_spec g5) k
      rw [hps, oI_in hr, Op.lookupswitch.offset_cons, if_pos rfl]
    · obtain ⟨hr, rfl⟩ := hC
      refine lv_lookup (off := o2) hx hb hd hzip ?_ (okT_spec g6) k
      rw [hps, oI_in hr, Op.lookupswitch.offset_cons, if_neg (by omega), Op.lookupswitch.offset_cons, if_pos rfl]
    · obtain ⟨hr, n1, n2⟩ := hC
      refine lv_lookup (off := dflt) hx hb hd hzip ?_ (okT_spec g4) k
      rw [hps, oI_in hr, Op.lookupswitch.offset_cons, if_neg (by omega), Op.lookupswitch.offset_cons, if_neg (by omega)]
      rfl
  | _ => exact absurd hsim (by simp [sim])

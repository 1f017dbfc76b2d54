/-! ===== calls and ends; the abstract machine is sound ===== -/
set_option maxRecDepth 100000 in
theorem okPc0_all : aMs.all (fun m => decide (pcAt m.2.2.2.2 0 = 0)) = true := by decide +kernel
set_option maxRecDepth 100000 in
theorem okNz_all : aMs.all (fun m => m.2.2.2.2.all (fun e => match aCall e.2.2.1 e.2.2.2.2 with
  | some (mj, _, _) => decide (mj ≠ 0)
  | none => true)) = true := by decide +kernel
set_option maxRecDepth 100000 in
theorem okIn_all : (aMsC.drop 1).all (fun m => plainFor m.1 && decide (Cond.initialized m.1.cls ∈ lw_tbl) && decide (m.1.cls ≠ "java/lang/invoke/MethodHandle") && decide (m.1.cls ≠ "java/lang/invoke/VarHandle") && decide (m.2.2.1 ≤ 11)) = true := by decide +kernel
theorem mA_in1 {mj : Nat} (h0 : mj ≠ 0) (h : mj < 156) : mA mj ∈ aMsC.drop 1 := by
  have hm : aMsC[mj]? = some (mA mj) := by
    unfold mA
    rw [aMs_eq, List.getD_eq_getElem?_getD, List.getElem?_append_left (by rw [aMsC_len]; exact h), List.getElem?_eq_getElem (by rw [aMsC_len]; exact h)]
    rfl
  refine List.mem_of_getElem? (i := mj - 1) ?_
  rw [List.getElem?_drop, show 1 + (mj - 1) = mj by omega]
  exact hm
theorem okIn {mj : Nat} (h0 : mj ≠ 0) (h : mj < 156) : plainFor (mA mj).1 = true ∧ Cond.initialized (mA mj).1.cls ∈ aTb ∧ (mA mj).1.cls ≠ "java/lang/invoke/MethodHandle" ∧ (mA mj).1.cls ≠ "java/lang/invoke/VarHandle" ∧ (mA mj).2.2.1 ≤ 11 := by
  have h1 := List.all_eq_true.mp okIn_all _ (mA_in1 h0 h)
  simp only [Bool.and_eq_true, decide_eq_true_eq] at h1
  exact ⟨h1.1.1.1.1, List.mem_filter.mpr ⟨h1.1.1.1.2, rfl⟩, h1.1.1.2, h1.1.2, h1.2⟩
theorem pcAt_0 (mi : Nat) : pcAt (mE mi) 0 = 0 := by
  by_cases hn : mE mi = []
  · rw [hn]; rfl
  · have h := List.all_eq_true.mp okPc0_all _ (mA_in hn)
    exact of_decide_eq_true h
theorem okNz {mi j mj n k : Nat} {e : AE} (he : (mE mi)[j]? = some e) (hc : aCall e.2.2.1 e.2.2.2.2 = some (mj, n, k)) : mj ≠ 0 := by
  have hne : mE mi ≠ [] := by intro q; rw [q] at he; cases he
  have h := List.all_eq_true.mp (List.all_eq_true.mp okNz_all _ (mA_in hne)) e (List.mem_of_getElem? he)
  rw [hc] at h
  exact of_decide_eq_true h
theorem goodB {ws : List Cond} (h : ∀ w ∈ ws, w ∈ aTb) : GoodIn aTb ws := fun w hw => ⟨h w hw, good_of_word (aTb_good (h w hw)).2⟩
/-! the entry's locals -/
theorem aArgs_mem {bs : Nat} {ex : Nat → Value} (hex : exOk ex) : ∀ (as : List AV) (off i : Nat) (v : AV), (aArgs as)[i]? = some v → v ≠ jk → (off + i, vV bs ex v) ∈ lv_args off (as.map (vV bs ex))
  | [], off, i, v, h, _ => by simp [aArgs] at h
  | a :: as, off, i, v, h, hv => by
    have hc := vV_catL (bs := bs) hex a
    unfold aArgs at h
    cases hl : aIsLong a with
    | true =>
      rw [hl] at h hc
      dsimp only at h hc
      simp only [List.map_cons, lv_args, hc, if_true]
      match i, h with
      | 0, h => cases h; exact List.mem_cons_self
      | 1, h => cases h; exact absurd rfl hv
      | i + 2, h =>
        have h2 : (aArgs as)[i]? = some v := h
        have := aArgs_mem (bs := bs) hex as (off + 2) i v h2 hv
        rw [show off + 2 + i = off + (i + 2) by omega] at this
        exact List.mem_cons_of_mem _ this
    | false =>
      rw [hl] at h hc
      dsimp only at h hc
      simp only [List.map_cons, lv_args, hc]
      match i, h with
      | 0, h => cases h; exact List.mem_cons_self
      | i + 1, h =>
        have h2 : (aArgs as)[i]? = some v := h
        have := aArgs_mem (bs := bs) hex as (off + 1) i v h2 hv
        rw [show off + 1 + i = off + (i + 1) by omega] at this
        exact List.mem_cons_of_mem _ this
theorem aArgs_len {bs : Nat} {ex : Nat → Value} (hex : exOk ex) : ∀ (as : List AV), (lg_sl (as.map (vV bs ex))).length = (aArgs as).length
  | [] => rfl
  | a :: as => by
    have hc := vV_catL (bs := bs) hex a
    have ih := aArgs_len (bs := bs) hex as
    unfold lg_sl at ih ⊢
    unfold aArgs
    cases hl : aIsLong a with
    | true =>
      rw [hl] at hc
      dsimp only at hc
      simp only [List.map_cons, List.flatMap_cons, hc, if_true, List.length_append, ih, List.length_cons, List.length_nil]
      omega
    | false =>
      rw [hl] at hc
      dsimp only at hc
      simp only [List.map_cons, List.flatMap_cons, hc, List.length_append, ih, List.length_cons]
      simp
      omega
theorem lR_entry {bs : Nat} {ex : Nat → Value} (hex : exOk ex) {mj : Nat} {as : List AV} (hn : (aArgs as).length ≤ (mA mj).2.2.1) : lR bs ex (mA mj).2.2.1 (aEntry mj as) ((lg_sl (as.map (vV bs ex)) ++ List.replicate ((mA mj).2.2.1 - (lg_sl (as.map (vV bs ex))).length) Slot.unset).toArray) := by
  have h := lv_entry (as.map (vV bs ex)) (n := (mA mj).2.2.1) (by rw [aArgs_len hex]; exact hn)
  refine ⟨?_, h.1, h.2.1, fun i v hi hv => ?_⟩
  · unfold aEntry; rw [List.length_append, List.length_replicate]; omega
  · unfold aEntry at hi
    by_cases hlt : i < (aArgs as).length
    · rw [List.getElem?_append_left hlt] at hi
      have := aArgs_mem (bs := bs) hex as 0 i v hi hv
      rw [Nat.zero_add] at this
      exact h.2.2 _ this
    · rw [List.getElem?_append_right (by omega)] at hi
      exact absurd (List.eq_of_mem_replicate (List.mem_of_getElem? hi)) hv
/-! the context is carried along -/
theorem aCtx.to {bs : Nat} {ex : Nat → Value} {κ : Nat → ClassId} {D : va_G} {b : Nat} {adK adV : Nat → Nat} {X : AX} {s U : State} {H : Heap} {locs : List Loc} (h : aCtx bs ex κ D b adK adV X s) (hS : va_S (A0 bs) s.heap H locs) (hU : U.heap = H) (hW : s.WarmedH U.vm) : aCtx bs ex κ D b adK adV X U := by
  obtain ⟨hK, hbs, hex, ⟨hX, hbb, hex0⟩, ⟨hKS, hexK, hKR⟩, hZ1, hZ2, hAO, hNw, hκ⟩ := h
  subst hU
  exact ⟨va_K.moved hW.alike hK, Nat.le_trans hbs hS.1, hex, ⟨(hX.kept (hS.2.1 b (Nat.lt_of_lt_of_le hbb hbs) (Nat.not_le.mpr hbb))).moved hW.alike, hbb, hex0⟩, ⟨(hKS.kept hS.2.1).moved hW.alike, hexK, fun i hi => (hKR i hi).warm hW⟩, (hZ1.kept hS.2.1).moved hW.alike, (hZ2.kept hS.2.1).moved hW.alike, hAO.moved hW.alike, fun q hq => (hNw q hq).warmM hW, hκ⟩
theorem aCtx.calling {bs : Nat} {ex : Nat → Value} {κ : Nat → ClassId} {D : va_G} {b : Nat} {adK adV : Nat → Nat} {X : AX} {U : State} {g : JFrame} {mk : MethodId} {a : Array Value} (h : aCtx bs ex κ D b adK adV X U) : aCtx bs ex κ D b adK adV X (U.calling g mk a) := by
  obtain ⟨hK, hbs, hex, ⟨hX, hbb, hex0⟩, ⟨hKS, hexK, hKR⟩, hZ1, hZ2, hAO, hNw, hκ⟩ := h
  have hA : U.vm.Alike (U.calling g mk a).vm := Vm.Alike.refl U.vm
  exact ⟨va_K.moved (u := U) (U := U.calling g mk a) hA hK, hbs, hex, ⟨va_X.moved (u := U) (U := U.calling g mk a) hA hX, hbb, hex0⟩, ⟨vk_S.moved (u := U) (U := U.calling g mk a) hA hKS, hexK, fun i hi => vk_R.same (u := U) (U := U.calling g mk a) rfl (hKR i hi)⟩, va_Z.moved (u := U) (U := U.calling g mk a) hA hZ1, va_Z.moved (u := U) (U := U.calling g mk a) hA hZ2, va_AO.moved (u := U) (U := U.calling g mk a) hA hAO, fun q hq => va_Nw.same (u := U) (U := U.calling g mk a) rfl rfl (hNw q hq), hκ⟩
/-- an end stands there -/
def aEndAt (m : AM) (pc : Nat) (r : Option AV) : Prop := match r with
  | none => decode m.2.1 pc = .ok (.return_, 1) ∧ m.2.2.2.1 = none
  | some (.inl z) => decode m.2.1 pc = .ok (.ireturn, 1) ∧ ∃ ty, m.2.2.2.1 = some ty ∧ narrow ty (.int (Int32.ofInt z)) = .int (Int32.ofInt z)
  | some (.inr (.inr (.inl _))) => decode m.2.1 pc = .ok (.areturn, 1) ∧ ∃ n, m.2.2.2.1 = some (.object n)
  | _ => False
/-- what the abstract machine promises of the machine -/
def SW (l : Launch) (bs : Nat) (ex : Nat → Value) (κ : Nat → ClassId) (D : va_G) (b : Nat) (adK adV : Nat → Nat) (X : AX) (cfg : ACfg) (Q : AQ) : Prop :=
  ∀ (p : Program) (e : Env) (R : Room) (s : State) (m : MethodId) (args : Array Value) (below : List Frame) (meth : Method) (c : Code) (H : Heap) (locs : List Loc) (cells slots : Nat) (Qs : State → Prop) (lsC : Array Slot),
    aAt p s m args meth c cfg.2.2.2.1 → aCtx bs ex κ D b adK adV X s → cfg.1 ≤ R.frames → 30 * cfg.1 ≤ R.locals → cells + cfg.2.1 ≤ R.cells → slots + cfg.2.2.1 ≤ R.slots → Wd bs ex κ D cfg.2.2.2.2.2.2.2 H → va_S (A0 bs) s.heap H locs → lR bs ex (mA cfg.2.2.2.1).2.2.1 cfg.2.2.2.2.2.1 lsC →
    (∀ (r : Option AV) (h' : AH) (H' : Heap) (locs' : List Loc) (cells' slots' pc : Nat) (ls' : Array Slot), Q r h' → Wd bs ex κ D h' H' → va_S (A0 bs) s.heap H' locs' → cells' ≤ cells + cfg.2.1 → slots' ≤ slots + cfg.2.2.1 → aEndAt (mA cfg.2.2.2.1) pc r → W p l e R s m args below meth c H' locs' cells' slots' Qs (F0 m pc ls' (r.toList.map (vV bs ex)))) →
    W p l e R s m args below meth c H locs cells slots Qs (F0 m (pcAt (mE cfg.2.2.2.1) cfg.2.2.2.2.1) lsC (cfg.2.2.2.2.2.2.1.map (vV bs ex)))
def cQ (bs : Nat) (ex : Nat → Value) (κ : Nat → ClassId) (D : va_G) (Q : AQ) : Array Value → State → Outcome → State → Prop := fun _ st o t => ∃ (r : Option AV) (h' : AH), o = .returned (r.map (vV bs ex)) ∧ Q r h' ∧ Wd bs ex κ D h' t.heap ∧ va_F (A0 bs) st t
theorem aEnd_W {bs : Nat} {ex : Nat → Value} {κ : Nat → ClassId} {D : va_G} {Q : AQ} {p : Program} {l : Launch} {e : Env} {R : Room} {s : State} {m : MethodId} {args : Array Value} {below : List Frame} {meth : Method} {c : Code} {H : Heap} {locs : List Loc} {cells slots mi pc : Nat} {ls : Array Slot} {r : Option AV} {h : AH} {b : Nat} {adK adV : Nat → Nat} {X : AX}
    (hat : aAt p s m args meth c mi) (hctx : aCtx bs ex κ D b adK adV X s) (hq : Q r h) (hw : Wd bs ex κ D h H) (hS : va_S (A0 bs) s.heap H locs) (he : aEndAt (mA mi) pc r) : W p l e R s m args below meth c H locs cells slots (MQ below (cQ bs ex κ D Q) args s cells slots (A0 bs)) (F0 m pc ls (r.toList.map (vV bs ex))) := by
  obtain ⟨hx, hb, hml, hown, hname, hret, hlocks, hts⟩ := hat
  have post : ∀ t : State, t.heap = H → s.WarmedH t.vm → cQ bs ex κ D Q args s (.returned (r.map (vV bs ex))) t := fun t ht _ => ⟨r, h, rfl, hq, by rw [ht]; exact hw, hS.F ht⟩
  match r, he, post with
  | none, he, post => exact W.vret hx hb (by rw [hret]; exact he.2) post hS.2.2 he.1
  | some (.inl z), he, post =>
    obtain ⟨hd, ty, hty, hn⟩ := he
    exact W.zret hx hb (by rw [hret]; exact hty) hn post hS.2.2 hd
  | some (.inr (.inr (.inl q))), he, post =>
    obtain ⟨hd, n, hty⟩ := he
    exact W.aret hx hb (by rw [hret]; exact hty) (Or.inl ⟨n, rfl⟩) (by cases q with | none => exact Or.inl rfl | some k => exact Or.inr ⟨_, rfl⟩) post hS.2.2 hd
/-- a method's contract out of its abstract run -/
theorem met_of {l : Launch} {bs : Nat} {ex : Nat → Value} {κ : Nat → ClassId} {D : va_G} {b : Nat} {adK adV : Nat → Nat} {X : AX} {d kc ks mj : Nat} {as : List AV} {h : AH} {Q : AQ} (hex : exOk ex) (h0 : mj ≠ 0) (hmj : mj < 156) (hn : (aArgs as).length ≤ (mA mj).2.2.1)
    (hSW : SW l bs ex κ D b adK adV X (d, kc, ks, mj, 0, aEntry mj as, [], h) Q) :
    Met l (mA mj).1 (mW mj) ({ frames := d, cells := kc, slots := ks, locals := 30 * d } : Room) (va_Pc (as.map (vV bs ex)) (fun U => aCtx bs ex κ D b adK adV X U ∧ Wd bs ex κ D h U.heap)) (cQ bs ex κ D Q) kc ks (A0 bs) := by
  refine va_MetF (cc := (mA mj).2.1) (maxL := (mA mj).2.2.1) (ret := (mA mj).2.2.2.1) (okIn h0 hmj).1 rfl ?_
  intro p e s m args below meth c s₁ B hml hv
  obtain ⟨rfl, hctx, hw⟩ := hv
  have hts := atoms_spec (ws := mW mj) B.pre
  have hat : aAt p s m (as.map (vV bs ex)).toArray meth c mj := ⟨B.exec, B.bytes, hml, findClass_of_methodNamed B.named, (name_of_methodNamed B.named B.method).1, B.returns, B.notSynchronized, fun w hw => hts w (List.mem_cons_of_mem _ hw)⟩
  rw [lg_entry_eq]
  have k := hSW p e (headSpec (mW mj) ({ frames := d, cells := kc, slots := ks, locals := 30 * d } : Room)).room s m (as.map (vV bs ex)).toArray below meth c s.heap [] 0 0 (MQ below (cQ bs ex κ D Q) (as.map (vV bs ex)).toArray s kc ks (A0 bs)) _ hat hctx (Nat.le_refl _) (Nat.le_refl _) (Nat.le_of_eq (Nat.zero_add _)) (Nat.le_of_eq (Nat.zero_add _)) hw va_S.rf (lR_entry hex hn)
    (fun r h' H' locs' cells' slots' pc ls' hq hw' hS' hc' hs' hend => W.widen (k := kc) (n := ks) (by dsimp only at hc'; omega) (by dsimp only at hs'; omega) (aEnd_W hat hctx hq hw' hS' hend))
  dsimp only at k
  rw [pcAt_0] at k
  exact k
/-- behind a call -/
theorem va_go {bs : Nat} {ex : Nat → Value} {κ : Nat → ClassId} {D : va_G} {Q' : AQ} {p : Program} {l : Launch} {e : Env} {R : Room} {s : State} {m : MethodId} {args : Array Value} {below : List Frame} {meth : Method} {c : Code} {H : Heap} {locs : List Loc} {cells slots mc ms pc : Nat} {Q : State → Prop} {ls : Array Slot} {st0 rest : List Value} {a : Array Value}
    (hr : va_Run p l e R s m args below meth c H locs cells slots mc ms (F0 m pc ls st0) rest (cQ bs ex κ D Q' a) (A0 bs)) (hS : va_S (A0 bs) s.heap H locs)
    (kk : ∀ (r : Option AV) (h' : AH) (H1 : Heap) (locs1 : List Loc), Q' r h' → Wd bs ex κ D h' H1 → va_S (A0 bs) s.heap H1 locs1 → W p l e R s m args below meth c H1 locs1 (cells + mc) (slots + ms) Q (F0 m (pc + 3) ls ((r.map (vV bs ex)).toList ++ rest))) : W p l e R s m args below meth c H locs cells slots Q (F0 m pc ls st0) := by
  intro T hT X
  obtain ⟨v, st₀, t, T', L, h0, X', hL, e1, e2, ⟨r, h', hv, hq, hw, hz, hk⟩, st⟩ := hr T hT X
  cases hv
  rw [h0] at hz hk
  obtain ⟨t2, a1, b1⟩ := kk r h' T'.heap (locs ++ L) hq (by rw [e1]; exact hw)
    ⟨Nat.le_trans hS.1 (by rw [e1]; exact hz), fun q h1 h2 => by rw [e1, hk q (Nat.lt_of_lt_of_le h1 hS.1) h2]; exact hS.2.1 q h1 h2, fun q hq => by
      rcases List.mem_append.mp hq with h | h
      · exact hS.2.2 q h
      · exact hL q h⟩ T' rfl X'
  exact ⟨t2, st t2 a1, b1⟩
theorem oi_in1 : Cond.instanceMethod Lib.objectInit ∈ aTb := List.mem_filter.mpr ⟨by decide +kernel, rfl⟩
theorem oi_in2 : Cond.code Lib.objectInit ⟨#[0xb1]⟩ 1 none ∈ aTb := List.mem_filter.mpr ⟨aCw_0, rfl⟩
theorem tl_map {bs : Nat} {ex : Nat → Value} (r : Option AV) (rest : List AV) : (r.map (vV bs ex)).toList ++ rest.map (vV bs ex) = (r.toList ++ rest).map (vV bs ex) := by
  cases r <;> simp
theorem aCall_aux {ins : Instr} {aux : List Nat} {mj n k : Nat} (h : aCall ins aux = some (mj, n, k)) : aux = [mj, n, k] ∧ ((∃ i, ins = .invokevirtual i) ∨ (∃ i, ins = .invokespecial i) ∨ ∃ i, ins = .invokestatic i) := by
  unfold aCall at h
  split at h
  · split at h
    · cases h; exact ⟨rfl, Or.inl ⟨_, rfl⟩⟩
    · cases h
  · split at h
    · cases h; exact ⟨rfl, Or.inr (Or.inl ⟨_, rfl⟩)⟩
    · cases h
  · split at h
    · cases h; exact ⟨rfl, Or.inr (Or.inr ⟨_, rfl⟩)⟩
    · cases h
  · cases h
set_option maxHeartbeats 4000000 in
set_option maxRecDepth 100000 in
/-- THE ABSTRACT MACHINE IS SOUND: its rules hold of the machine -/
theorem snd_closed (l : Launch) (bs : Nat) (ex : Nat → Value) (κ : Nat → ClassId) (D : va_G) (b : Nat) (adK adV : Nat → Nat) (X : AX) : ∀ (cfg : ACfg) (Q : AQ), aStep X (SW l bs ex κ D b adK adV X) cfg Q → SW l bs ex κ D b adK adV X cfg Q := by
  intro cfg Q hst
  obtain ⟨d, kc, ks, mi, j, ls, st, h⟩ := cfg
  obtain ⟨en, he, hor⟩ := hst
  intro p e R s m args below meth c H locs cells slots Qs lsC hat hctx hfr hlo hrc hrs hw hS hl hend
  dsimp only at hat hfr hlo hrc hrs hw hl hend ⊢
  rcases hor with ⟨dn, C, t, ls', st', h', kc', ks', hsim, hC, hP⟩ | ⟨mj, n, k, as, rest, d', kc1, ks1, kc2, ks2, Q', hcall, rfl, hlen, ⟨hwt, hargs⟩, rfl, rfl, rfl, hrecv, hM, hcont⟩ | ⟨C, r, hr, hC, hq⟩ | ⟨i, q, rest, d', hi, haux, rfl, hwt, rfl, hP⟩
  · exact snd_sim he hsim hC hat hctx hrc hrs hw hS hl (fun H1 locs1 cells1 slots1 lsC1 hw1 hS1 hc1 hs1 hl1 => hP p e R s m args below meth c H1 locs1 cells1 slots1 Qs lsC1 hat hctx hfr hlo (by dsimp only; omega) (by dsimp only; omega) hw1 hS1 hl1 (fun r h'' H' locs' cells' slots' pc ls'' hq hw' hS' hc' hs' he' => hend r h'' H' locs' cells' slots' pc ls'' hq hw' hS' (by dsimp only at hc'; omega) (by dsimp only at hs'; omega) he'))
  · have hnz := okNz he hcall
    obtain ⟨o, pc, ins, len, aux⟩ := en
    obtain ⟨haux, hins⟩ := aCall_aux hcall
    dsimp only at haux hins
    subst haux
    have hd := dec_at he
    have hln := (okLs_at he).1
    have hpc := pcAt_eq he
    have hnx : okLast ins = false → pcAt (mE mi) (j + 1) = pc + len := fun q => pcAt_next he q
    obtain ⟨hs9, hok⟩ := okI_at he
    dsimp only at hd hln hpc hnx hok
    rw [hpc]
    have hctx0 := hctx
    have hat0 := hat
    obtain ⟨hx, hb, hml, hown, hname, hret, hlocks, hts⟩ := hat
    obtain ⟨hK, hbs, hex, ⟨hX, hbb, hex0⟩, ⟨hKS, hexK, hKR⟩, hZ1, hZ2, hAO, hNw, hκ⟩ := hctx
    have hstm : (as.reverse ++ rest).map (vV bs ex) = (as.map (vV bs ex)).reverse ++ rest.map (vV bs ex) := by rw [List.map_append, List.map_reverse]
    have hroom : ∀ pc0 ls0 st0, 2 * (F0 m pc0 ls0 st0).monitorRoom + ((rest.map (vV bs ex)).map fun v => v.category).sum ≤ 8 := fun _ _ _ => lv_room (by rw [aWt_eq hex]; exact hwt)
    have blind : FrameBlind (va_Pc (as.map (vV bs ex)) (fun U => aCtx bs ex κ D b adK adV X U ∧ Wd bs ex κ D h U.heap)) := fun a U g mk q => ⟨q.1, q.2.1.calling, q.2.2⟩
    have pre : ∀ U : State, U.heap = H → s.WarmedH U.vm → aCtx bs ex κ D b adK adV X U ∧ Wd bs ex κ D h U.heap := fun U hU hW => ⟨hctx0.to hS hU hW, by rw [hU]; exact hw⟩
    have cont : ∀ (r : Option AV) (h' : AH) (H1 : Heap) (locs1 : List Loc), Q' r h' → Wd bs ex κ D h' H1 → va_S (A0 bs) s.heap H1 locs1 → W p l e R s m args below meth c H1 locs1 (cells + kc1) (slots + ks1) Qs (F0 m (pcAt (mE mi) (j + 1)) lsC ((r.map (vV bs ex)).toList ++ rest.map (vV bs ex))) := by
      intro r h' H1 locs1 hq hw1 hS1
      rw [tl_map]
      exact hcont r h' hq p e R s m args below meth c H1 locs1 (cells + kc1) (slots + ks1) Qs lsC hat0 hctx0 hfr hlo (by dsimp only; omega) (by dsimp only; omega) hw1 hS1 hl (fun r h'' H' locs' cells' slots' pc ls'' hq hw' hS' hc' hs' he' => hend r h'' H' locs' cells' slots' pc ls'' hq hw' hS' (by dsimp only at hc'; omega) (by dsimp only at hs'; omega) he')
    rcases hins with ⟨i, rfl⟩ | ⟨i, rfl⟩ | ⟨i, rfl⟩
    · have hlen3 : len = 3 := by simpa [okLn] using hln
      subst hlen3
      rw [hnx rfl] at cont
      simp only [okI, okC, Bool.and_eq_true, decide_eq_true_eq] at hok
      obtain ⟨rfl, ⟨hmj, hdesc⟩, hg⟩ := hok
      simp only [Bool.and_eq_true] at hg
      obtain ⟨⟨g1, g2⟩, g3⟩ := hg
      obtain ⟨i1, i2, i3, i4, i5⟩ := okIn hnz hmj
      have hMet := met_of hex hnz hmj hargs hM
      have hR : d' + 1 ≤ R.frames ∧ 8 + ((mA mj).2.2.1 + 11) + 30 * d' ≤ R.locals := ⟨hfr, by omega⟩
      have hG : GoodIn aTb (wsV (mA mi).1.cls i (mA mj).1.cls (mA mj).1 (mW mj)) := goodB (fun w hw => by
        unfold wsV at hw
        rcases List.mem_append.mp hw with hw | hw
        · simp only [List.mem_cons, List.not_mem_nil, or_false] at hw
          rcases hw with rfl | rfl | rfl | rfl
          · exact aGw_in g1
          · exact aGw_in g2
          · exact aGw_in g3
          · exact i2
        · exact mW_tb hmj w hw)
      have go : ∀ (b0 : Nat) (ps : List AV) (recv : AV), as = recv :: ps → vV bs ex recv = .ref b0 → (∃ cellB : Cell, H[b0]? = some cellB ∧ cellB.vm.isStatics = false ∧ s.vm.findClass (mA mj).1.cls = some cellB.cls) → W p l e R s m args below meth c H locs cells slots Qs (F0 m pc lsC ((as.reverse ++ rest).map (vV bs ex))) := by
        intro b0 ps recv has hv hcell
        have hmap : as.map (vV bs ex) = .ref b0 :: ps.map (vV bs ex) := by rw [has, List.map_cons, hv]
        refine va_go (va_runV (As := ps.map (vV bs ex)) (rest := rest.map (vV bs ex)) (b := b0) ⟨hx, hb, hml, hown, hts⟩ hMet (cwV (C := (mA mj).1.cls) n hts hG rfl rfl rfl ⟨rfl, i3, i4, hdesc⟩ hR) ⟨blind, hcell, fun U hU hW => ⟨by rw [hmap], pre U hU hW⟩⟩ rfl (by rw [List.length_map]; rw [has] at hlen; simpa [aNargs] using hlen) hl.2.1 ?_ (hroom _ _ _) hd ⟨by omega, by omega⟩) hS cont
        rw [hstm, hmap, List.reverse_cons, List.append_assoc]
        rfl
      match as, hrecv, go with
      | .inr (.inr (.inl (some q))) :: ps, hrecv, go =>
        obtain ⟨c0, fs, hq, hcls⟩ := hrecv
        cases hc0 : aCl[c0]? with
        | none =>
          obtain ⟨r9, h9, -⟩ := hw.1 q _ (wS_get hq)
          rw [hc0] at h9; cases h9
        | some x =>
          have hcl2 : x.1 = (mA mj).1.cls := by rw [← hcls, List.getD_eq_getElem?_getD, hc0]; rfl
          obtain ⟨cellB, k1, k2, k3⟩ := va_recv hK hw.1 hc0 (wS_get hq)
          exact go (bs + q) ps _ rfl rfl ⟨cellB, k1, k2, by rw [← hcl2]; exact k3⟩
      | .inr (.inr (.inr jx)) :: ps, hrecv, go =>
        obtain ⟨h1, h8, hcls⟩ := hrecv
        obtain ⟨i0, rfl⟩ : ∃ i0, jx = i0 + 1 := ⟨jx - 1, by omega⟩
        have hi0 : i0 < 8 := by omega
        refine go (adK i0) ps _ rfl (hexK i0 hi0).1 ?_
        rw [hcls]
        exact vk_recv hKS hi0 hS
      | [], hrecv, go => exact hrecv.elim
      | .inl _ :: _, hrecv, go => exact hrecv.elim
      | .inr (.inl _) :: _, hrecv, go => exact hrecv.elim
      | .inr (.inr (.inl none)) :: _, hrecv, go => exact hrecv.elim
    · have hlen3 : len = 3 := by simpa [okLn] using hln
      subst hlen3
      rw [hnx rfl] at cont
      simp only [okI, Bool.and_eq_true, decide_eq_true_eq] at hok
      obtain ⟨hk, hok⟩ := hok
      have hrecv' : ∃ q ps, as = .inr (.inr (.inl (some q))) :: ps := by
        rcases hk with rfl | rfl
        · match as, hrecv with
          | .inr (.inr (.inl (some q))) :: ps, _ => exact ⟨q, ps, rfl⟩
          | [], hrecv => exact hrecv.elim
          | .inl _ :: _, hrecv => exact hrecv.elim
          | .inr (.inl _) :: _, hrecv => exact hrecv.elim
          | .inr (.inr (.inl none)) :: _, hrecv => exact hrecv.elim
          | .inr (.inr (.inr _)) :: _, hrecv => exact hrecv.elim
        · match as, hrecv with
          | .inr (.inr (.inl (some q))) :: ps, _ => exact ⟨q, ps, rfl⟩
          | [], hrecv => exact hrecv.elim
          | .inl _ :: _, hrecv => exact hrecv.elim
          | .inr (.inl _) :: _, hrecv => exact hrecv.elim
          | .inr (.inr (.inl none)) :: _, hrecv => exact hrecv.elim
          | .inr (.inr (.inr _)) :: _, hrecv => exact hrecv.elim
      obtain ⟨q, ps, has⟩ := hrecv'
      have hmap : as.map (vV bs ex) = .ref (bs + q) :: ps.map (vV bs ex) := by rw [has, List.map_cons]; rfl
      have hlen2 : (ps.map (vV bs ex)).length = n := by
        rw [List.length_map]
        rw [has] at hlen
        rcases hk with rfl | rfl <;> simpa [aNargs] using hlen
      have hmj : mj < 156 := by simp only [okC, Bool.and_eq_true, decide_eq_true_eq] at hok; exact hok.1.1
      have hdesc : (parseMethodDescriptor (mA mj).1.desc).map (fun d => d.parameters.length) = some n := by simp only [okC, Bool.and_eq_true, decide_eq_true_eq] at hok; exact hok.1.2
      obtain ⟨i1, i2, i3, i4, i5⟩ := okIn hnz hmj
      have hMet := met_of hex hnz hmj hargs hM
      have hR : d' + 1 ≤ R.frames ∧ 8 + ((mA mj).2.2.1 + 11) + 30 * d' ≤ R.locals := ⟨hfr, by omega⟩
      have hsteq : (as.reverse ++ rest).map (vV bs ex) = (ps.map (vV bs ex)).reverse ++ .ref (bs + q) :: rest.map (vV bs ex) := by
        rw [hstm, hmap, List.reverse_cons, List.append_assoc]
        rfl
      rcases hk with rfl | rfl
      · simp only [okC, Bool.and_eq_true, decide_eq_true_eq] at hok
        obtain ⟨-, ⟨⟨g1, g2⟩, g3⟩, g4⟩ := hok
        have hw0 : mW mj = Cond.code (mA mj).1 (mA mj).2.1 (mA mj).2.2.1 none :: aTb := by unfold mW; rw [g4]
        exact va_go (va_runI (As := ps.map (vV bs ex)) (rest := rest.map (vV bs ex)) (b := bs + q) ⟨hx, hb, hml, hown, hts⟩ hMet (cwI n hts (mW_goodB hmj) hw0 rfl rfl (hts _ i2) (hts _ (aGw_in g1)) (hts _ (aGw_in g2)) g3 ⟨i3, i4, hdesc⟩ hR) ⟨blind, fun U hU hW => ⟨by rw [hmap], pre U hU hW⟩⟩ rfl hlen2 hl.2.1 hsteq (hroom _ _ _) hd ⟨by omega, by omega⟩) hS cont
      · simp only [okC, Bool.and_eq_true, decide_eq_true_eq] at hok
        obtain ⟨-, ⟨⟨g1, g2⟩, g3⟩, g4⟩ := hok
        have hw0 : mW mj = Cond.code (mA mj).1 (mA mj).2.1 (mA mj).2.2.1 none :: aTb := by unfold mW; rw [g4]
        exact va_go (va_runIN (As := ps.map (vV bs ex)) (rest := rest.map (vV bs ex)) (b := bs + q) ⟨hx, hb, hml, hown, hts⟩ hMet ⟨va_cnB n hts (mW_goodB hmj) hw0 rfl rfl (hNw _ g1) (hts _ i2) ⟨i3, i4, hdesc⟩ hR, g3, hts _ (aGw_in g2)⟩ ⟨blind, fun U hU hW => ⟨by rw [hmap], pre U hU hW⟩⟩ rfl hlen2 hl.2.1 hsteq (hroom _ _ _) hd ⟨by omega, by omega⟩) hS cont
    · have hlen3 : len = 3 := by simpa [okLn] using hln
      subst hlen3
      rw [hnx rfl] at cont
      simp only [okI, Bool.and_eq_true, decide_eq_true_eq] at hok
      obtain ⟨hk, hok⟩ := hok
      have hlen2 : (as.map (vV bs ex)).length = n := by
        rw [List.length_map]
        rcases hk with rfl | rfl <;> simpa [aNargs] using hlen
      have hmj : mj < 156 := by simp only [okC, Bool.and_eq_true, decide_eq_true_eq] at hok; exact hok.1.1
      have hdesc : (parseMethodDescriptor (mA mj).1.desc).map (fun d => d.parameters.length) = some n := by simp only [okC, Bool.and_eq_true, decide_eq_true_eq] at hok; exact hok.1.2
      obtain ⟨i1, i2, i3, i4, i5⟩ := okIn hnz hmj
      have hMet := met_of hex hnz hmj hargs hM
      have hR : d' + 1 ≤ R.frames ∧ 8 + ((mA mj).2.2.1 + 11) + 30 * d' ≤ R.locals := ⟨hfr, by omega⟩
      rcases hk with rfl | rfl
      · simp only [okC, Bool.and_eq_true] at hok
        obtain ⟨-, g1, g2⟩ := hok
        have hG : GoodIn aTb (va_wsS (mA mi).1.cls i (mA mj).1 (mW mj)) := goodB (fun w hw => by
          unfold va_wsS at hw
          rcases List.mem_append.mp hw with hw | hw
          · simp only [List.mem_cons, List.not_mem_nil, or_false] at hw
            rcases hw with rfl | rfl | rfl
            · exact aGw_in g1
            · exact aGw_in g2
            · exact i2
          · exact mW_tb hmj w hw)
        exact va_go (va_runS (As := as.map (vV bs ex)) (rest := rest.map (vV bs ex)) ⟨hx, hb, hml, hown, hts⟩ hMet (va_cwS n hts hG rfl rfl rfl ⟨i3, i4, hdesc⟩ hR) ⟨blind, fun U hU hW => ⟨rfl, pre U hU hW⟩⟩ rfl hlen2 hl.2.1 hstm (hroom _ _ _) hd ⟨by omega, by omega⟩) hS cont
      · simp only [okC, Bool.and_eq_true, decide_eq_true_eq] at hok
        obtain ⟨-, g1, g2⟩ := hok
        exact va_go (va_runSN (As := as.map (vV bs ex)) (rest := rest.map (vV bs ex)) ⟨hx, hb, hml, hown, hts⟩ hMet ⟨va_cnB n hts (mW_goodB hmj) rfl rfl rfl (hNw _ g1) (hts _ i2) ⟨i3, i4, hdesc⟩ hR, hts _ (aGw_in g2), trivial⟩ ⟨blind, fun U hU hW => ⟨rfl, pre U hU hW⟩⟩ rfl hlen2 hl.2.1 hstm (hroom _ _ _) hd ⟨by omega, by omega⟩) hS cont
  · obtain ⟨o, pc, ins, len, aux⟩ := en
    have hd := dec_at he
    have hln := (okLs_at he).1
    have hpc := pcAt_eq he
    dsimp only at hd hln hpc hr
    rw [hpc]
    have fin : aEndAt (mA mi) pc r → st = r.toList → W p l e R s m args below meth c H locs cells slots Qs (F0 m pc lsC (st.map (vV bs ex))) := fun h1 h2 => by
      rw [h2]
      exact hend r h H locs cells slots pc lsC hq hw hS (by omega) (by omega) h1
    unfold aRet at hr
    split at hr
    · have hl1 : len = 1 := by simpa [okLn] using hln
      subst hl1
      split at hr
      · split at hr
        · rename_i hty
          simp only [Option.some.injEq, Prod.mk.injEq] at hr
          obtain ⟨rfl, rfl⟩ := hr
          exact fin ⟨hd, _, hty, rfl⟩ rfl
        · rename_i hty
          simp only [Option.some.injEq, Prod.mk.injEq] at hr
          obtain ⟨rfl, rfl⟩ := hr
          refine fin ⟨hd, _, hty, ?_⟩ rfl
          rcases hC with rfl | rfl <;> decide +kernel
        · rename_i z _ hty
          simp only [Option.some.injEq, Prod.mk.injEq] at hr
          obtain ⟨rfl, rfl⟩ := hr
          refine fin ⟨hd, _, hty, ?_⟩ rfl
          have hz : inR z := ⟨by omega, by omega⟩
          show Value.int (Int32.ofInt z).toInt8.toInt32 = .int (Int32.ofInt z)
          have : (Int32.ofInt z).toInt8.toInt32 = Int32.ofInt z := by
            rw [← Int32.toInt_inj, Int8.toInt_toInt32, Int32.toInt_toInt8, oI_in hz]
            exact Int.bmod_eq_of_le (by omega) (by omega)
          rw [this]
        · rename_i z _ hty
          simp only [Option.some.injEq, Prod.mk.injEq] at hr
          obtain ⟨rfl, rfl⟩ := hr
          refine fin ⟨hd, _, hty, ?_⟩ rfl
          obtain ⟨k, rfl⟩ : ∃ k : Nat, z = (k : Int) := ⟨z.toNat, by omega⟩
          have hk : k < 65536 := by omega
          have h9 := (pk_charN hk).1
          have e9 : nI k = Int32.ofInt (k : Int) := oI_nat k
          rw [e9] at h9
          exact h9
        · cases hr
      · cases hr
    · have hl1 : len = 1 := by simpa [okLn] using hln
      subst hl1
      split at hr
      · split at hr
        · rename_i hty
          simp only [Option.some.injEq, Prod.mk.injEq] at hr
          obtain ⟨rfl, rfl⟩ := hr
          exact fin ⟨hd, _, hty⟩ rfl
        · cases hr
      · cases hr
    · have hl1 : len = 1 := by simpa [okLn] using hln
      subst hl1
      split at hr
      · split at hr
        · rename_i hty
          simp only [Option.some.injEq, Prod.mk.injEq] at hr
          obtain ⟨rfl, rfl⟩ := hr
          exact fin ⟨hd, hty⟩ rfl
        · cases hr
      · cases hr
    · cases hr
  · obtain ⟨o, pc, ins, len, aux⟩ := en
    dsimp only at hi haux
    subst hi
    subst haux
    have hd := dec_at he
    have hln := (okLs_at he).1
    have hpc := pcAt_eq he
    have hnx := pcAt_next he rfl
    obtain ⟨hs9, hok⟩ := okI_at he
    dsimp only at hd hln hpc hnx hok
    have hlen3 : len = 3 := by simpa [okLn] using hln
    subst hlen3
    rw [hpc]
    have hat0 := hat
    have hctx0 := hctx
    obtain ⟨hx, hb, hml, hown, hname, hret, hlocks, hts⟩ := hat
    obtain ⟨hK, hbs, hex, -⟩ := hctx
    have k := hP p e R s m args below meth c H locs cells slots Qs lsC hat0 hctx0 hfr hlo hrc hrs hw hS hl hend
    dsimp only at k
    rw [hnx] at k
    have hwt2 : ((rest.map (vV bs ex)).map fun v => v.category).sum ≤ 8 := by rw [aWt_eq hex]; exact hwt
    exact W.objInit hx hb hown (hts _ (aGw_in hok)) (hts _ oi_in1) (hts _ oi_in2) rfl (by rw [hml]; exact hl.2.1) rfl hd (by omega) (by show 2 * 0 + _ + 12 ≤ _; omega) k
theorem AW_sound {l : Launch} {bs : Nat} {ex : Nat → Value} {κ : Nat → ClassId} {D : va_G} {b : Nat} {adK adV : Nat → Nat} {X : AX} {cfg : ACfg} {Q : AQ} (h : AWc X cfg Q) : SW l bs ex κ D b adK adV X cfg Q := h _ (snd_closed l bs ex κ D b adK adV X)

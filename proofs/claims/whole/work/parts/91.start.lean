/-! ===== the start ===== -/
theorem zT : rT (zf, 0) (zf, 0) := by
  refine ⟨rfl, ⟨Int.le_refl 0, by dsimp only; omega⟩, fun i => ?_, fun i => ⟨Int.le_refl 0, by dsimp only [zf]; omega⟩⟩
  have e : bAnd 0 255 = 0 := by decide
  exact e
theorem zG : rG (zf, zf, zf, zf, zf, zf, zf, zf, 0, 0, 0) (zf, zf, zf, 0) := by
  have k : kG (zf, zf, zf, 0) := by
    refine ⟨⟨Int.le_refl 0, by dsimp only; omega⟩, fun i => ⟨Int.le_refl 0, by dsimp only [zf]; omega⟩, fun g g0 g1 => ⟨by dsimp only [zf]; omega, by dsimp only [zf]; omega, by dsimp only [zf]; omega, by dsimp only [zf]; omega⟩, fun g g0 g1 => ?_, fun i => Or.inl rfl, fun i => Or.inl rfl⟩
    have : g < 0 := g1
    omega
  refine ⟨k, ⟨rfl, fun g g0 g1 => ⟨rfl, rfl, rfl, rfl, rfl, rfl⟩, fun g g0 g1 => rfl⟩, fun a b a0 a1 b0 b1 => bitI_0 ⟨b0, b1⟩, rfl, rfl, fun g g0 g1 => rfl, fun a b a0 a1 b0 b1 => rfl, fun a b a0 a1 b0 b1 => rfl⟩
theorem zH : rH (fun _ => none, 0, 60, 1, 5) [] (zf, zf, zf, 0, 60, 1, 5) := by
  refine ⟨rfl, fun i hi => ?_, rfl, fun r b hb => (by cases hb), rfl, rfl, rfl, ⟨⟨Int.le_refl 0, by dsimp only; omega⟩, fun r r0 r1 => ?_, fun r r0 r1 => ?_, by dsimp only; omega, by dsimp only; omega, by dsimp only; omega⟩⟩
  · have : (i : Int) < 0 := hi
    omega
  · have : r < 0 := r1
    omega
  · have : r + 1 < 0 := r1
    omega
theorem zF : kF (zf, zf, zf, 0, 60, 1, 5) := fun r r0 r1 => ⟨⟨Int.le_refl 0, by dsimp only [zf]; omega⟩, Int.le_refl 0, by dsimp only [zf]; omega⟩
theorem zO : ordI (ahM (zf, zf, zf, 0) (fil zf (-1) 8, zf, zf, 0)) (inM (zf, zf, zf, 0) (fil zf (-1) 8, zf, zf, 0)) zf 0 := by
  refine ⟨Int.le_refl 0, fun i j i0 ij j1 => by omega, fun i i0 i1 => by omega, fun g hg => ?_⟩
  have h1 : g < 0 := hg.1.2
  have h2 : 0 ≤ g := hg.1.1
  omega
theorem zR : rF (0, -1, 0, 0, 0, 0) (zf, zf, zf, 0, -1, 0, 0, 0) := ⟨rfl, rfl, Or.inl rfl, by dsimp only; omega, by dsimp only; omega⟩
theorem zU : kU (fil zf (-1) 8, zf, zf, 0) := by
  refine ⟨⟨Int.le_refl 0, by dsimp only; omega⟩, fun k k0 k1 => ?_, fun x x0 x1 => ?_, fun x k x0 x1 k0 k1 => ?_⟩
  · have e : fil zf (-1) 8 k = -1 := fil_lt 8 k k0 k1
    show -1 ≤ fil zf (-1) 8 k ∧ fil zf (-1) 8 k < 0
    rw [e]
    omega
  · have : x < 0 := x1
    omega
  · have : x < 0 := x1
    omega
theorem zB : rB (fil zf (-1) 8, zf, zf, zf, 0, 0) (fil zf (-1) 8, zf, zf, 0) := by
  refine ⟨rfl, fun k k0 k1 => rfl, fun x x0 x1 => ?_, fun x k x0 x1 k0 k1 => ?_⟩
  · have : x < 0 := x1
    omega
  · have : x < 0 := x1
    omega
theorem zS : rS (fil zf (-2) 32, fil zf (-1) 32, zf, 0, 0, 0, 0) (zf, zf, zf, zf, zf, 0, 0, 0, 0) (zf, zf, zf, 0) 0 := by
  have k : kS (zf, zf, zf, zf, zf, 0, 0, 0, 0) := ⟨fun k => ⟨Int.le_refl 0, by dsimp only [zf]; omega⟩, fun k => ⟨Int.le_refl 0, by dsimp only [zf]; omega⟩, Or.inl rfl, Int.le_refl 0, by dsimp only; omega⟩
  have no : ∀ g, ¬ satM (zf, zf, zf, zf, zf, 0, 0, 0, 0) g := fun g hg => by
    have : (0 : Int) = 1 := hg.1
    omega
  refine ⟨k, rfl, ⟨rfl, Int.le_refl 0, Int.le_refl 0⟩, ⟨rfl, Int.le_refl 0, by dsimp only; omega⟩, Int.le_refl 0, fun g g0 g1 => ⟨?_, Or.inr (Or.inr ⟨fun z => ?_, ?_⟩)⟩, fun g hg => absurd hg (no g), ⟨⟨Int.le_refl 0, by dsimp only; omega⟩, fun i j i0 ij j1 => ?_, fun i i0 i1 => ?_, fun g hg => absurd hg (no g)⟩, fun _ => rfl⟩
  · have e : fil zf (-1) 32 g = -1 := fil_lt 32 g g0 g1
    dsimp only
    rw [e]
    omega
  · have : (0 : Int) = 1 := z.1
    omega
  · exact fil_lt 32 g g0 g1
  · have : j < 0 := j1
    omega
  · have : i < 0 := i1
    omega
theorem zN : rN (fil zf (-1) 32, fil zf (-1) 32, fil zf (-1) 32, fil zf (0) 4) (zf, zf, zf, zf, 0, 0) (zf, zf, zf, 0) := by
  refine ⟨Or.inl rfl, ⟨Int.le_refl 0, Int.le_refl 0⟩, fun i i0 i1 => ⟨by dsimp only [zf]; omega, by dsimp only [zf]; omega⟩, fun g g0 g1 => Or.inr ⟨fun z => ?_, ?_, ?_, ?_⟩⟩
  · have : (0 : Int) = 1 := z.1
    omega
  · exact fil_lt 32 g g0 g1
  · exact fil_lt 32 g g0 g1
  · exact fil_lt 32 g g0 g1
theorem zX : kX (fil zf (-2) 32, fil zf (-1) 32, zf, 0, 0, 0, 0) (fil zf (-2) 32, fil zf (-1) 32, zf, 0, 0, 0, 0) := by
  intro g hg
  have e : fil zf (-2) 32 g = zf g := fil_ge 32 g hg
  exact ⟨e, e⟩
theorem RR0 : RR 0 0 (zf, 0) (zf, zf, zf, zf, zf, zf, zf, zf, 0, 0, 0) (fun _ => none, 0, 60, 1, 5) (zf, 0) (0, -1, 0, 0, 0, 0) (fil zf (-1) 32, fil zf (-1) 32, fil zf (-1) 32, fil zf (0) 4) (fil zf (-1) 8, zf, zf, zf, 0, 0) (fil zf (-1) 8, zf, zf, zf, 0, 0) (fil zf (-2) 32, fil zf (-1) 32, zf, 0, 0, 0, 0) (fil zf (-2) 32, fil zf (-1) 32, zf, 0, 0, 0, 0) [] (zf, 0) (zf, zf, zf, 0) (zf, zf, zf, 0, 60, 1, 5) (fil zf (-1) 8, zf, zf, 0) (zf, zf, zf, 0, -1, 0, 0, 0) (zf, zf, zf, zf, zf, 0, 0, 0, 0) (zf, zf, zf, zf, 0, 0) := ⟨Or.inl rfl, Or.inl rfl, zT, zG, zH, zF, zO, zR, zU, zB, zS, zN, zX⟩

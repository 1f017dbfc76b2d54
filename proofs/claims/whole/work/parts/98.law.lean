set_option maxRecDepth 100000 in
theorem law_AW : ∀ X : AX, X.1 ≤ 3584 → (∀ i, inR (X.2 i)) → AW X 12 100000 2000000 156 0 [.inr (.inr (.inr 0)), jk, jk, jk] [] [] (fun r _ => r = some (.inl 1)) := by
  intro X hX hin
  refine aw_tree (d := 0) (I0_ok X 10) [(true, 1)] [] rfl ?_
  refine ⟨⟨by omega, Nat.le_of_ble_eq_true rfl⟩, ?_⟩
  refine aw_cf (kc1 := 48) (ks1 := 1245) (kc2 := 99951) (ks2 := 1998744) (c_init 6) rfl rfl rfl ?_
  refine aw_tree (d := 0) (I0_ok X 10) [(true, 50)] [] rfl ?_
  refine ⟨⟨by omega, Nat.le_of_ble_eq_true rfl⟩, ?_⟩
  refine aw_cf (kc1 := 23) (ks1 := 271013) (kc2 := 99927) (ks2 := 1727689) (m_init 9 (CA 0 0 (zf, 0) (zf, zf, zf, zf, zf, zf, zf, zf, 0, 0, 0) (fun _ => none, 0, 60, 1, 5) (zf, 0) (0, -1, 0, 0, 0, 0) (zf, zf, zf, zf, zf, zf, zf, zf, 0, 0, 0, 0, 0, 0) (fil zf (-1) 32, fil zf (-1) 32, fil zf (-1) 32, fil zf (0) 4) (fil zf (-1) 8, zf, zf, zf, 0, 0) (fil zf (-1) 8, zf, zf, zf, 0, 0) (fil zf (-2) 32, fil zf (-1) 32, zf, 0, 0, 0, 0) (fil zf (-2) 32, fil zf (-1) 32, zf, 0, 0, 0, 0))) rfl rfl rfl ?_
  refine aw_tree (d := 0) (I0_ok X 10) [] [10] rfl ?_
  exact law_loop hX hin 512 0 99927 1727689 _ (Inv_mk 0 0 (zf, 0) (zf, zf, zf, zf, zf, zf, zf, zf, 0, 0, 0) (fun _ => none, 0, 60, 1, 5) (zf, 0) (0, -1, 0, 0, 0, 0) (zf, zf, zf, zf, zf, zf, zf, zf, 0, 0, 0, 0, 0, 0) (fil zf (-1) 32, fil zf (-1) 32, fil zf (-1) 32, fil zf (0) 4) (fil zf (-1) 8, zf, zf, zf, 0, 0) (fil zf (-1) 8, zf, zf, zf, 0, 0) (fil zf (-2) 32, fil zf (-1) 32, zf, 0, 0, 0, 0) (fil zf (-2) 32, fil zf (-1) 32, zf, 0, 0, 0, 0) [] (zf, 0) (zf, zf, zf, 0) (zf, zf, zf, 0, 60, 1, 5) (fil zf (-1) 8, zf, zf, 0) (zf, zf, zf, 0, -1, 0, 0, 0) (zf, 0) (zf, zf, zf, zf, zf, 0, 0, 0, 0) (zf, zf, zf, zf, 0, 0) RR0) (by omega) (by omega) (by omega) (by omega) (by omega)

set_option maxRecDepth 4000 in
theorem n_Spans {G : GL} {d : Nat} {hp : HP} {sz b : Nat} (ob0 : isob hp b 4) (hb : b < sz) (hs : sz + 10 < 700000) (hc : fld hp b 4 2 (vi 0)) : Ct G (d + 1) 2 64 mX4_init [vr b] hp sz (fun r h z => r = none ∧ z = sz + 2 ∧ (∀ x, x < sz → x ≠ b → h x = hp x) ∧ fld h b 4 0 (vr sz) ∧ fld h b 4 1 (vr (sz + 1)) ∧ fld h b 4 2 (vi 0) ∧ h sz = ar 0 32 (fun _ => 0) ∧ h (sz + 1) = ar 0 32 (fun _ => 0)) := by
  show Ex _ _ _ _ _ _ [vr b] _ _ _ _
  refine x_aload_n (pc := 0) dX4_init_0 rfl ?_
  refine x_objInit (pc := 1) dX4_init_1 kX4_3 oi_inst oi_code (by omega) (Nat.le_of_ble_eq_true rfl) ?_
  refine x_aload_n (pc := 4) dX4_init_4 rfl ?_
  refine x_bipush (pc := 5) dX4_init_5 (by decide) ?_
  refine x_newarr (pc := 7) (rc := 1) (rs := 32) (kk := 0) (at0 := .int) (n := 32) dX4_init_7 rfl (by decide) rfl (by decide) ac_int (by decide) (by omega) ?_
  refine x_pFv (pc := 9) dX4_init_9 pX4_9 rfl (fit_arr _ _) (ob0.elim fun fs hfs => ⟨fs, (up_n _ _ (by omega)).trans hfs⟩) (by omega) (fun hp9 hf9 => ?_)
  have g0 : hp9 (sz + 0) = ar 0 32 (fun _ => 0) := (hf9.1 _ (by omega)).trans (up_s _ _ _)
  have ob1 := hf9.2.1.ob
  refine x_aload_n (pc := 12) dX4_init_12 rfl ?_
  refine x_bipush (pc := 13) dX4_init_13 (by decide) ?_
  refine x_newarr (pc := 15) (rc := 0) (rs := 0) (kk := 0) (at0 := .int) (n := 32) dX4_init_15 rfl (by decide) rfl (by decide) ac_int (by decide) (by omega) ?_
  refine x_pFv (pc := 17) dX4_init_17 pX4_15 rfl (fit_arr _ _) (ob1.elim fun fs hfs => ⟨fs, (up_n _ _ (by omega)).trans hfs⟩) (by omega) (fun hp17 hf17 => ?_)
  have g1 : hp17 (sz + 1) = ar 0 32 (fun _ => 0) := (hf17.1 _ (by omega)).trans (up_s _ _ _)
  have ob2 := hf17.2.1.ob
  refine x_vret (pc := 20) dX4_init_20 rfl ⟨rfl, rfl, fun x h1 h2 => ((hf17.1 x h2).trans (up_n _ _ (by omega))).trans ((hf9.1 x h2).trans (up_n _ _ (by omega))), hf17.2.2 _ _ (by decide) ((hf9.2.1).up (by omega)), hf17.2.1, hf17.2.2 _ _ (by decide) ((hf9.2.2 _ _ (by decide) (hc.up (by omega))).up (by omega)), ((hf17.1 _ (by omega)).trans (up_n _ _ (by omega))).trans g0, g1⟩

set_option maxRecDepth 4000 in
theorem n_Spans {G : GL} {d : Nat} {hp : HP} {sz b : Nat} (ob0 : isob hp b 4) (hb : b < sz) (hs : sz + 10 < 700000) (hc : fld hp b 4 2 (vi 0)) : Ct G (d + 1) 2 64 mX4_init [vr b] hp sz (fun r h z => r = none ∧ z = sz + 2 ∧ (∀ x, x < sz → x ≠ b → h x = hp x) ∧ fld h b 4 0 (vr (sz + 0)) ∧ fld h b 4 1 (vr (sz + 1)) ∧ fld h b 4 2 (vi 0) ∧ h (sz + 0) = ar 0 32 (fun _ => 0) ∧ h (sz + 1) = ar 0 32 (fun _ => 0)) := by
  show Ex _ _ _ _ _ _ [vr b] _ _ _ _
  refine x_aload_n (pc := 0) dX4_init_0 rfl ?_
  refine x_objInit (pc := 1) dX4_init_1 kX4_3 oi_inst oi_code (by omega) (Nat.le_of_ble_eq_true rfl) ?_
  refine x_aload_n (pc := 4) dX4_init_4 rfl ?_
  refine x_bipush (pc := 5) dX4_init_5 (by decide) ?_
  refine x_newarr (pc := 7) (rc := 1) (rs := 32) (kk := 0) (at0 := .int) (n := 32) dX4_init_7 rfl (by decide) rfl (by decide) ac_int (by decide) (by omega) ?_
  refine x_pFv (pc := 9) dX4_init_9 pX4_9 rfl (fit_arr _ _) (ob0.elim fun fs hfs => ⟨fs, (up_n _ _ (by omega)).trans hfs⟩) (by omega) (fun hp9 hf9 => ?_)
  have g0 : hp9 (sz + 0) = ar 0 32 (fun _ => 0) := (hf9.1 _ (by omega)).trans (up_s _ _ _)
  have ob1 := hf9.2.1.ob
  refine x_aload_n (pc := 12) dX4_init_12 rfl ?_
  refine x_bipush (pc := 13) dX4_init_13 (by decide) ?_
  refine x_newarr (pc := 15) (rc := 0) (rs := 0) (kk := 0) (at0 := .int) (n := 32) dX4_init_15 rfl (by decide) rfl (by decide) ac_int (by decide) (by omega) ?_
  refine x_pFv (pc := 17) dX4_init_17 pX4_15 rfl (fit_arr _ _) (ob1.elim fun fs hfs => ⟨fs, (up_n _ _ (by omega)).trans hfs⟩) (by omega) (fun hp17 hf17 => ?_)
  have g1 : hp17 (sz + 1) = ar 0 32 (fun _ => 0) := (hf17.1 _ (by omega)).trans (up_s _ _ _)
  have ob2 := hf17.2.1.ob
  refine x_vret (pc := 20) dX4_init_20 rfl ⟨rfl, rfl, fun x h1 h2 => (((hf17.1 x h2).trans (up_n _ _ (by omega))).trans (((hf9.1 x h2).trans (up_n _ _ (by omega))).trans rfl)), (hf17.2.2 _ _ (by decide) ((hf9.2.1).up (by omega))), hf17.2.1, (hf17.2.2 _ _ (by decide) (((hf9.2.2 _ _ (by decide) ((hc).up (by omega)))).up (by omega))), (((hf17.1 _ (by omega)).trans (up_n _ _ (by omega))).trans g0), g1⟩

set_option maxRecDepth 4000 in
theorem n_Laying {G : GL} {d : Nat} {hp : HP} {sz b : Nat} (ob0 : isob hp b 0) (hb : b < sz) (hs : sz + 10 < 700000) (hc : fld hp b 0 2 (vi 0)) : Ct G (d + 1) 2 120 mX0_init [vr b] hp sz (fun r h z => r = none ∧ z = sz + 2 ∧ (∀ x, x < sz → x ≠ b → h x = hp x) ∧ fld h b 0 0 (vr (sz + 0)) ∧ fld h b 0 1 (vr (sz + 1)) ∧ fld h b 0 2 (vi 0) ∧ h (sz + 0) = ar 0 8 (fun _ => 0) ∧ h (sz + 1) = ar 0 112 (fun _ => 0)) := by
  show Ex _ _ _ _ _ _ [vr b] _ _ _ _
  refine x_aload_n (pc := 0) dX0_init_0 rfl ?_
  refine x_objInit (pc := 1) dX0_init_1 kX0_3 oi_inst oi_code (by omega) (Nat.le_of_ble_eq_true rfl) ?_
  refine x_aload_n (pc := 4) dX0_init_4 rfl ?_
  refine x_bipush (pc := 5) dX0_init_5 (by decide) ?_
  refine x_newarr (pc := 7) (rc := 1) (rs := 112) (kk := 0) (at0 := .int) (n := 8) dX0_init_7 rfl (by decide) rfl (by decide) ac_int (by decide) (by omega) ?_
  refine x_pFv (pc := 9) dX0_init_9 pX0_9 rfl (fit_arr _ _) (ob0.elim fun fs hfs => ⟨fs, (up_n _ _ (by omega)).trans hfs⟩) (by omega) (fun hp9 hf9 => ?_)
  have g0 : hp9 (sz + 0) = ar 0 8 (fun _ => 0) := (hf9.1 _ (by omega)).trans (up_s _ _ _)
  have ob1 := hf9.2.1.ob
  refine x_aload_n (pc := 12) dX0_init_12 rfl ?_
  refine x_bipush (pc := 13) dX0_init_13 (by decide) ?_
  refine x_newarr (pc := 15) (rc := 0) (rs := 0) (kk := 0) (at0 := .int) (n := 112) dX0_init_15 rfl (by decide) rfl (by decide) ac_int (by decide) (by omega) ?_
  refine x_pFv (pc := 17) dX0_init_17 pX0_15 rfl (fit_arr _ _) (ob1.elim fun fs hfs => ⟨fs, (up_n _ _ (by omega)).trans hfs⟩) (by omega) (fun hp17 hf17 => ?_)
  have g1 : hp17 (sz + 1) = ar 0 112 (fun _ => 0) := (hf17.1 _ (by omega)).trans (up_s _ _ _)
  have ob2 := hf17.2.1.ob
  refine x_vret (pc := 20) dX0_init_20 rfl ⟨rfl, rfl, fun x h1 h2 => (((hf17.1 x h2).trans (up_n _ _ (by omega))).trans (((hf9.1 x h2).trans (up_n _ _ (by omega))).trans rfl)), (hf17.2.2 _ _ (by decide) ((hf9.2.1).up (by omega))), hf17.2.1, (hf17.2.2 _ _ (by decide) (((hf9.2.2 _ _ (by decide) ((hc).up (by omega)))).up (by omega))), (((hf17.1 _ (by omega)).trans (up_n _ _ (by omega))).trans g0), g1⟩

set_option maxRecDepth 4000 in
theorem n_Pairing {G : GL} {d : Nat} {hp : HP} {sz b : Nat} (ob0 : isob hp b 1) (hb : b < sz) (hs : sz + 10 < 700000) : Ct G (d + 1) 4 128 mX1_init [vr b] hp sz (fun r h z => r = none ∧ z = sz + 4 ∧ (∀ x, x < sz → x ≠ b → h x = hp x) ∧ fld h b 1 0 (vr (sz + 0)) ∧ fld h b 1 1 (vr (sz + 1)) ∧ fld h b 1 2 (vr (sz + 2)) ∧ fld h b 1 3 (vr (sz + 3)) ∧ h (sz + 0) = ar 0 32 (fun _ => 0) ∧ h (sz + 1) = ar 0 32 (fun _ => 0) ∧ h (sz + 2) = ar 0 32 (fun _ => 0) ∧ h (sz + 3) = ar 0 32 (fun _ => 0)) := by
  show Ex _ _ _ _ _ _ [vr b] _ _ _ _
  refine x_aload_n (pc := 0) dX1_init_0 rfl ?_
  refine x_objInit (pc := 1) dX1_init_1 kX1_3 oi_inst oi_code (by omega) (Nat.le_of_ble_eq_true rfl) ?_
  refine x_aload_n (pc := 4) dX1_init_4 rfl ?_
  refine x_bipush (pc := 5) dX1_init_5 (by decide) ?_
  refine x_newarr (pc := 7) (rc := 3) (rs := 96) (kk := 0) (at0 := .int) (n := 32) dX1_init_7 rfl (by decide) rfl (by decide) ac_int (by decide) (by omega) ?_
  refine x_pFv (pc := 9) dX1_init_9 pX1_9 rfl (fit_arr _ _) (ob0.elim fun fs hfs => ⟨fs, (up_n _ _ (by omega)).trans hfs⟩) (by omega) (fun hp9 hf9 => ?_)
  have g0 : hp9 (sz + 0) = ar 0 32 (fun _ => 0) := (hf9.1 _ (by omega)).trans (up_s _ _ _)
  have ob1 := hf9.2.1.ob
  refine x_aload_n (pc := 12) dX1_init_12 rfl ?_
  refine x_bipush (pc := 13) dX1_init_13 (by decide) ?_
  refine x_newarr (pc := 15) (rc := 2) (rs := 64) (kk := 0) (at0 := .int) (n := 32) dX1_init_15 rfl (by decide) rfl (by decide) ac_int (by decide) (by omega) ?_
  refine x_pFv (pc := 17) dX1_init_17 pX1_15 rfl (fit_arr _ _) (ob1.elim fun fs hfs => ⟨fs, (up_n _ _ (by omega)).trans hfs⟩) (by omega) (fun hp17 hf17 => ?_)
  have g1 : hp17 (sz + 1) = ar 0 32 (fun _ => 0) := (hf17.1 _ (by omega)).trans (up_s _ _ _)
  have ob2 := hf17.2.1.ob
  refine x_aload_n (pc := 20) dX1_init_20 rfl ?_
  refine x_bipush (pc := 21) dX1_init_21 (by decide) ?_
  refine x_newarr (pc := 23) (rc := 1) (rs := 32) (kk := 0) (at0 := .int) (n := 32) dX1_init_23 rfl (by decide) rfl (by decide) ac_int (by decide) (by omega) ?_
  refine x_pFv (pc := 25) dX1_init_25 pX1_18 rfl (fit_arr _ _) (ob2.elim fun fs hfs => ⟨fs, (up_n _ _ (by omega)).trans hfs⟩) (by omega) (fun hp25 hf25 => ?_)
  have g2 : hp25 (sz + 2) = ar 0 32 (fun _ => 0) := (hf25.1 _ (by omega)).trans (up_s _ _ _)
  have ob3 := hf25.2.1.ob
  refine x_aload_n (pc := 28) dX1_init_28 rfl ?_
  refine x_bipush (pc := 29) dX1_init_29 (by decide) ?_
  refine x_newarr (pc := 31) (rc := 0) (rs := 0) (kk := 0) (at0 := .int) (n := 32) dX1_init_31 rfl (by decide) rfl (by decide) ac_int (by decide) (by omega) ?_
  refine x_pFv (pc := 33) dX1_init_33 pX1_21 rfl (fit_arr _ _) (ob3.elim fun fs hfs => ⟨fs, (up_n _ _ (by omega)).trans hfs⟩) (by omega) (fun hp33 hf33 => ?_)
  have g3 : hp33 (sz + 3) = ar 0 32 (fun _ => 0) := (hf33.1 _ (by omega)).trans (up_s _ _ _)
  have ob4 := hf33.2.1.ob
  refine x_vret (pc := 36) dX1_init_36 rfl ⟨rfl, rfl, fun x h1 h2 => (((hf33.1 x h2).trans (up_n _ _ (by omega))).trans (((hf25.1 x h2).trans (up_n _ _ (by omega))).trans (((hf17.1 x h2).trans (up_n _ _ (by omega))).trans (((hf9.1 x h2).trans (up_n _ _ (by omega))).trans rfl)))), (hf33.2.2 _ _ (by decide) (((hf25.2.2 _ _ (by decide) (((hf17.2.2 _ _ (by decide) ((hf9.2.1).up (by omega)))).up (by omega)))).up (by omega))), (hf33.2.2 _ _ (by decide) (((hf25.2.2 _ _ (by decide) ((hf17.2.1).up (by omega)))).up (by omega))), (hf33.2.2 _ _ (by decide) ((hf25.2.1).up (by omega))), hf33.2.1, (((hf33.1 _ (by omega)).trans (up_n _ _ (by omega))).trans (((hf25.1 _ (by omega)).trans (up_n _ _ (by omega))).trans (((hf17.1 _ (by omega)).trans (up_n _ _ (by omega))).trans g0))), (((hf33.1 _ (by omega)).trans (up_n _ _ (by omega))).trans (((hf25.1 _ (by omega)).trans (up_n _ _ (by omega))).trans g1)), (((hf33.1 _ (by omega)).trans (up_n _ _ (by omega))).trans g2), g3⟩

set_option maxRecDepth 4000 in
theorem n_Tree {G : GL} {d : Nat} {hp : HP} {sz b : Nat} (ob0 : isob hp b 5) (hb : b < sz) (hs : sz + 10 < 700000) (hc : fld hp b 5 4 (vi 0)) : Ct G (d + 1) 4 36 mX5_init [vr b] hp sz (fun r h z => r = none ∧ z = sz + 4 ∧ (∀ x, x < sz → x ≠ b → h x = hp x) ∧ fld h b 5 0 (vr (sz + 0)) ∧ fld h b 5 1 (vr (sz + 1)) ∧ fld h b 5 2 (vr (sz + 2)) ∧ fld h b 5 3 (vr (sz + 3)) ∧ fld h b 5 4 (vi 0) ∧ h (sz + 0) = ar 0 9 (fun _ => 0) ∧ h (sz + 1) = ar 0 9 (fun _ => 0) ∧ h (sz + 2) = ar 0 9 (fun _ => 0) ∧ h (sz + 3) = ar 0 9 (fun _ => 0)) := by
  show Ex _ _ _ _ _ _ [vr b] _ _ _ _
  refine x_aload_n (pc := 0) dX5_init_0 rfl ?_
  refine x_objInit (pc := 1) dX5_init_1 kX5_3 oi_inst oi_code (by omega) (Nat.le_of_ble_eq_true rfl) ?_
  refine x_aload_n (pc := 4) dX5_init_4 rfl ?_
  refine x_bipush (pc := 5) dX5_init_5 (by decide) ?_
  refine x_newarr (pc := 7) (rc := 3) (rs := 27) (kk := 0) (at0 := .int) (n := 9) dX5_init_7 rfl (by decide) rfl (by decide) ac_int (by decide) (by omega) ?_
  refine x_pFv (pc := 9) dX5_init_9 pX5_9 rfl (fit_arr _ _) (ob0.elim fun fs hfs => ⟨fs, (up_n _ _ (by omega)).trans hfs⟩) (by omega) (fun hp9 hf9 => ?_)
  have g0 : hp9 (sz + 0) = ar 0 9 (fun _ => 0) := (hf9.1 _ (by omega)).trans (up_s _ _ _)
  have ob1 := hf9.2.1.ob
  refine x_aload_n (pc := 12) dX5_init_12 rfl ?_
  refine x_bipush (pc := 13) dX5_init_13 (by decide) ?_
  refine x_newarr (pc := 15) (rc := 2) (rs := 18) (kk := 0) (at0 := .int) (n := 9) dX5_init_15 rfl (by decide) rfl (by decide) ac_int (by decide) (by omega) ?_
  refine x_pFv (pc := 17) dX5_init_17 pX5_15 rfl (fit_arr _ _) (ob1.elim fun fs hfs => ⟨fs, (up_n _ _ (by omega)).trans hfs⟩) (by omega) (fun hp17 hf17 => ?_)
  have g1 : hp17 (sz + 1) = ar 0 9 (fun _ => 0) := (hf17.1 _ (by omega)).trans (up_s _ _ _)
  have ob2 := hf17.2.1.ob
  refine x_aload_n (pc := 20) dX5_init_20 rfl ?_
  refine x_bipush (pc := 21) dX5_init_21 (by decide) ?_
  refine x_newarr (pc := 23) (rc := 1) (rs := 9) (kk := 0) (at0 := .int) (n := 9) dX5_init_23 rfl (by decide) rfl (by decide) ac_int (by decide) (by omega) ?_
  refine x_pFv (pc := 25) dX5_init_25 pX5_18 rfl (fit_arr _ _) (ob2.elim fun fs hfs => ⟨fs, (up_n _ _ (by omega)).trans hfs⟩) (by omega) (fun hp25 hf25 => ?_)
  have g2 : hp25 (sz + 2) = ar 0 9 (fun _ => 0) := (hf25.1 _ (by omega)).trans (up_s _ _ _)
  have ob3 := hf25.2.1.ob
  refine x_aload_n (pc := 28) dX5_init_28 rfl ?_
  refine x_bipush (pc := 29) dX5_init_29 (by decide) ?_
  refine x_newarr (pc := 31) (rc := 0) (rs := 0) (kk := 0) (at0 := .int) (n := 9) dX5_init_31 rfl (by decide) rfl (by decide) ac_int (by decide) (by omega) ?_
  refine x_pFv (pc := 33) dX5_init_33 pX5_21 rfl (fit_arr _ _) (ob3.elim fun fs hfs => ⟨fs, (up_n _ _ (by omega)).trans hfs⟩) (by omega) (fun hp33 hf33 => ?_)
  have g3 : hp33 (sz + 3) = ar 0 9 (fun _ => 0) := (hf33.1 _ (by omega)).trans (up_s _ _ _)
  have ob4 := hf33.2.1.ob
  refine x_vret (pc := 36) dX5_init_36 rfl ⟨rfl, rfl, fun x h1 h2 => (((hf33.1 x h2).trans (up_n _ _ (by omega))).trans (((hf25.1 x h2).trans (up_n _ _ (by omega))).trans (((hf17.1 x h2).trans (up_n _ _ (by omega))).trans (((hf9.1 x h2).trans (up_n _ _ (by omega))).trans rfl)))), (hf33.2.2 _ _ (by decide) (((hf25.2.2 _ _ (by decide) (((hf17.2.2 _ _ (by decide) ((hf9.2.1).up (by omega)))).up (by omega)))).up (by omega))), (hf33.2.2 _ _ (by decide) (((hf25.2.2 _ _ (by decide) ((hf17.2.1).up (by omega)))).up (by omega))), (hf33.2.2 _ _ (by decide) ((hf25.2.1).up (by omega))), hf33.2.1, (hf33.2.2 _ _ (by decide) (((hf25.2.2 _ _ (by decide) (((hf17.2.2 _ _ (by decide) (((hf9.2.2 _ _ (by decide) ((hc).up (by omega)))).up (by omega)))).up (by omega)))).up (by omega))), (((hf33.1 _ (by omega)).trans (up_n _ _ (by omega))).trans (((hf25.1 _ (by omega)).trans (up_n _ _ (by omega))).trans (((hf17.1 _ (by omega)).trans (up_n _ _ (by omega))).trans g0))), (((hf33.1 _ (by omega)).trans (up_n _ _ (by omega))).trans (((hf25.1 _ (by omega)).trans (up_n _ _ (by omega))).trans g1)), (((hf33.1 _ (by omega)).trans (up_n _ _ (by omega))).trans g2), g3⟩

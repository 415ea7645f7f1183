/-! the constructor of Parting -/
set_option maxRecDepth 4000 in
theorem n_Parting {G : GL} {d : Nat} {hp : HP} {p N : Nat} (hP : isP p) (ob0 : isob hp 36 2) : Ct G (d + 2) 39 306 mX2_init [vr 36, vi p, vi N] hp 37 (fun r h z => r = none ∧ z = 76 ∧ (∀ x, x < 36 → h x = hp x) ∧ PZ h p N) := by
  show Ex _ _ _ _ _ _ [vr 36, vi p, vi N] _ _ _ _
  have hp2 := hP.le
  have hin : inP (fun _ _ => 0) p := fun _ _ _ _ => ⟨by show (0 : Int) ≤ 0; omega, by show (0 : Int) < p; omega⟩
  refine x_aload_n (pc := 0) dX2_init_0 rfl ?_
  refine x_objInit (pc := 1) dX2_init_1 kX2_3 oi_inst oi_code (by omega) (Nat.le_of_ble_eq_true rfl) ?_
  refine x_aload_n (pc := 4) dX2_init_4 rfl ?_
  refine x_bipush (pc := 5) dX2_init_5 (by decide) ?_
  refine x_bipush (pc := 7) dX2_init_7 (by decide) ?_
  refine x_multi (pc := 9) (rc := 28) (rs := 196) (kk := 0) (ty := .int) (n := 10) (m := 10) dX2_init_9 (by decide) rfl rfl strI2 rfl rfl rfl (by decide) (by rw [← strII]; exact nX2_9) (by simp [AOs]) ac_int (by decide) (by decide) (by have : (10 : Int).toNat = 10 := rfl; omega) ?_
  rw [show 37 + 1 + (10 : Int).toNat = 48 from rfl]
  refine x_pFv (pc := 13) dX2_init_13 pX2_11 rfl (fit_arr _ _) (by obtain ⟨fs, hfs⟩ := ob0; exact ⟨fs, (gr_old (by omega)).trans hfs⟩) (by omega) (fun hp13 hf13 => ?_)
  refine x_aload_n (pc := 16) dX2_init_16 rfl ?_
  refine x_iload_n (pc := 17) dX2_init_17 rfl ?_
  refine x_pFv (pc := 18) dX2_init_18 pX2_16 rfl (fit_int _) hf13.2.1.ob (by omega) (fun hp18 hf18 => ?_)
  refine x_aload_n (pc := 21) dX2_init_21 rfl ?_
  refine x_iload_n (pc := 22) dX2_init_22 rfl ?_
  refine x_pFv (pc := 23) dX2_init_23 pX2_20 rfl (fit_int _) hf18.2.1.ob (by omega) (fun hp23 hf23 => ?_)
  have F0 := hf23.2.2 _ _ (by decide) hf18.2.1
  have F1 := hf23.2.1
  have F2 := hf23.2.2 _ _ (by decide) (hf18.2.2 _ _ (by decide) hf13.2.1)
  have c23 : ∀ x, x < 48 → x ≠ 36 → hp23 x = grid hp 37 0 (10 : Int).toNat (10 : Int).toNat x := fun x h1 h2 => (hf23.1 x h2).trans ((hf18.1 x h2).trans (hf13.1 x h2))
  refine x_aload_n (pc := 26) dX2_init_26 rfl ?_
  refine x_new (pc := 27) (c := 3) (n := 5) (rc := 27) (rs := 191) dX2_init_27 nX2_23 (by omega) ?_
  refine x_dupr (pc := 30) dX2_init_30 ?_
  refine x_iload_n (pc := 31) dX2_init_31 rfl ?_
  refine x_callI (pc := 32) (a := 48) (as := [vi p]) (st := [vr 48, vr 36]) (d' := d + 1) (rc := 21) (rs := 147) dX2_init_32 wX3_init rfl rfl iX3_init kX2_25 rfl (by decide) rfl (Nat.le_of_ble_eq_true rfl) (by omega) (n_Rows (d := d) (b := 48) ⟨_, up_s _ _ _⟩ rfl (by omega) ⟨_, up_s _ _ _, rfl⟩ ⟨_, up_s _ _ _, rfl⟩) (fun r32 h32 z32 q32 => ?_)
  obtain ⟨e1, e2, e32, R32⟩ := q32
  subst e1
  subst e2
  show Ex _ _ _ _ _ _ _ [vr 48, vr 36] h32 55 _
  refine x_pFv (pc := 35) dX2_init_35 pX2_28 rfl (fit_obj _ _) (((show isob hp23 36 2 from F0.ob).elim fun fs hfs => ⟨fs, (e32 36 (by omega) (by omega)).trans ((up_n _ _ (by omega)).trans hfs)⟩)) (by omega) (fun hp35 hf35 => ?_)
  have c35 : ∀ x, x < 48 → x ≠ 36 → hp35 x = hp23 x := fun x h1 h2 => (hf35.1 x h2).trans ((e32 x (by omega) (by omega)).trans (up_n _ _ (by omega)))
  have F0 := hf35.2.2 _ _ (by decide) ((F0.up (show 36 ≠ 48 by decide)).keep (e32 36 (by omega) (by omega)))
  have F1 := hf35.2.2 _ _ (by decide) ((F1.up (show 36 ≠ 48 by decide)).keep (e32 36 (by omega) (by omega)))
  have F2 := hf35.2.2 _ _ (by decide) ((F2.up (show 36 ≠ 48 by decide)).keep (e32 36 (by omega) (by omega)))
  have F3 := hf35.2.1
  have R48 := R32.keep (fun x h1 h2 => hf35.1 x (by omega))
  refine x_aload_n (pc := 38) dX2_init_38 rfl ?_
  refine x_new (pc := 39) (c := 3) (n := 5) (rc := 20) (rs := 142) dX2_init_39 nX2_23 (by omega) ?_
  refine x_dupr (pc := 42) dX2_init_42 ?_
  refine x_iload_n (pc := 43) dX2_init_43 rfl ?_
  refine x_callI (pc := 44) (a := 55) (as := [vi p]) (st := [vr 55, vr 36]) (d' := d + 1) (rc := 14) (rs := 98) dX2_init_44 wX3_init rfl rfl iX3_init kX2_25 rfl (by decide) rfl (Nat.le_of_ble_eq_true rfl) (by omega) (n_Rows (d := d) (b := 55) ⟨_, up_s _ _ _⟩ rfl (by omega) ⟨_, up_s _ _ _, rfl⟩ ⟨_, up_s _ _ _, rfl⟩) (fun r44 h44 z44 q44 => ?_)
  obtain ⟨e1, e2, e44, R44⟩ := q44
  subst e1
  subst e2
  show Ex _ _ _ _ _ _ _ [vr 55, vr 36] h44 62 _
  refine x_pfo (pc := 47) dX2_init_47 pX2_32 (((show isob hp35 36 2 from F0.ob).elim fun fs hfs => ⟨fs, (e44 36 (by omega) (by omega)).trans ((up_n _ _ (by omega)).trans hfs)⟩)) (by omega) (fun hp47 hf47 => ?_)
  have c47 : ∀ x, x < 55 → x ≠ 36 → hp47 x = hp35 x := fun x h1 h2 => (hf47.1 x h2).trans ((e44 x (by omega) (by omega)).trans (up_n _ _ (by omega)))
  have F0 := hf47.2.2 _ _ (by decide) ((F0.up (show 36 ≠ 55 by decide)).keep (e44 36 (by omega) (by omega)))
  have F1 := hf47.2.2 _ _ (by decide) ((F1.up (show 36 ≠ 55 by decide)).keep (e44 36 (by omega) (by omega)))
  have F2 := hf47.2.2 _ _ (by decide) ((F2.up (show 36 ≠ 55 by decide)).keep (e44 36 (by omega) (by omega)))
  have F3 := hf47.2.2 _ _ (by decide) ((F3.up (show 36 ≠ 55 by decide)).keep (e44 36 (by omega) (by omega)))
  have F4 := hf47.2.1
  have R48 := R48.keep (fun x h1 h2 => c47 x (by omega) (by omega))
  have R55 := R44.keep (fun x h1 h2 => hf47.1 x (by omega))
  refine x_aload_n (pc := 50) dX2_init_50 rfl ?_
  refine x_new (pc := 51) (c := 3) (n := 5) (rc := 13) (rs := 93) dX2_init_51 nX2_23 (by omega) ?_
  refine x_dupr (pc := 54) dX2_init_54 ?_
  refine x_iload_n (pc := 55) dX2_init_55 rfl ?_
  refine x_callI (pc := 56) (a := 62) (as := [vi p]) (st := [vr 62, vr 36]) (d' := d + 1) (rc := 7) (rs := 49) dX2_init_56 wX3_init rfl rfl iX3_init kX2_25 rfl (by decide) rfl (Nat.le_of_ble_eq_true rfl) (by omega) (n_Rows (d := d) (b := 62) ⟨_, up_s _ _ _⟩ rfl (by omega) ⟨_, up_s _ _ _, rfl⟩ ⟨_, up_s _ _ _, rfl⟩) (fun r56 h56 z56 q56 => ?_)
  obtain ⟨e1, e2, e56, R56⟩ := q56
  subst e1
  subst e2
  show Ex _ _ _ _ _ _ _ [vr 62, vr 36] h56 69 _
  refine x_pfo (pc := 59) dX2_init_59 pX2_35 (((show isob hp47 36 2 from F0.ob).elim fun fs hfs => ⟨fs, (e56 36 (by omega) (by omega)).trans ((up_n _ _ (by omega)).trans hfs)⟩)) (by omega) (fun hp59 hf59 => ?_)
  have c59 : ∀ x, x < 62 → x ≠ 36 → hp59 x = hp47 x := fun x h1 h2 => (hf59.1 x h2).trans ((e56 x (by omega) (by omega)).trans (up_n _ _ (by omega)))
  have F0 := hf59.2.2 _ _ (by decide) ((F0.up (show 36 ≠ 62 by decide)).keep (e56 36 (by omega) (by omega)))
  have F1 := hf59.2.2 _ _ (by decide) ((F1.up (show 36 ≠ 62 by decide)).keep (e56 36 (by omega) (by omega)))
  have F2 := hf59.2.2 _ _ (by decide) ((F2.up (show 36 ≠ 62 by decide)).keep (e56 36 (by omega) (by omega)))
  have F3 := hf59.2.2 _ _ (by decide) ((F3.up (show 36 ≠ 62 by decide)).keep (e56 36 (by omega) (by omega)))
  have F4 := hf59.2.2 _ _ (by decide) ((F4.up (show 36 ≠ 62 by decide)).keep (e56 36 (by omega) (by omega)))
  have F5 := hf59.2.1
  have R48 := R48.keep (fun x h1 h2 => c59 x (by omega) (by omega))
  have R55 := R55.keep (fun x h1 h2 => c59 x (by omega) (by omega))
  have R62 := R56.keep (fun x h1 h2 => hf59.1 x (by omega))
  refine x_aload_n (pc := 62) dX2_init_62 rfl ?_
  refine x_new (pc := 63) (c := 3) (n := 5) (rc := 6) (rs := 44) dX2_init_63 nX2_23 (by omega) ?_
  refine x_dupr (pc := 66) dX2_init_66 ?_
  refine x_iload_n (pc := 67) dX2_init_67 rfl ?_
  refine x_callI (pc := 68) (a := 69) (as := [vi p]) (st := [vr 69, vr 36]) (d' := d + 1) (rc := 0) (rs := 0) dX2_init_68 wX3_init rfl rfl iX3_init kX2_25 rfl (by decide) rfl (Nat.le_of_ble_eq_true rfl) (by omega) (n_Rows (d := d) (b := 69) ⟨_, up_s _ _ _⟩ rfl (by omega) ⟨_, up_s _ _ _, rfl⟩ ⟨_, up_s _ _ _, rfl⟩) (fun r68 h68 z68 q68 => ?_)
  obtain ⟨e1, e2, e68, R68⟩ := q68
  subst e1
  subst e2
  show Ex _ _ _ _ _ _ _ [vr 69, vr 36] h68 76 _
  refine x_pfo (pc := 71) dX2_init_71 pX2_38 (((show isob hp59 36 2 from F0.ob).elim fun fs hfs => ⟨fs, (e68 36 (by omega) (by omega)).trans ((up_n _ _ (by omega)).trans hfs)⟩)) (by omega) (fun hp71 hf71 => ?_)
  have c71 : ∀ x, x < 69 → x ≠ 36 → hp71 x = hp59 x := fun x h1 h2 => (hf71.1 x h2).trans ((e68 x (by omega) (by omega)).trans (up_n _ _ (by omega)))
  have F0 := hf71.2.2 _ _ (by decide) ((F0.up (show 36 ≠ 69 by decide)).keep (e68 36 (by omega) (by omega)))
  have F1 := hf71.2.2 _ _ (by decide) ((F1.up (show 36 ≠ 69 by decide)).keep (e68 36 (by omega) (by omega)))
  have F2 := hf71.2.2 _ _ (by decide) ((F2.up (show 36 ≠ 69 by decide)).keep (e68 36 (by omega) (by omega)))
  have F3 := hf71.2.2 _ _ (by decide) ((F3.up (show 36 ≠ 69 by decide)).keep (e68 36 (by omega) (by omega)))
  have F4 := hf71.2.2 _ _ (by decide) ((F4.up (show 36 ≠ 69 by decide)).keep (e68 36 (by omega) (by omega)))
  have F5 := hf71.2.2 _ _ (by decide) ((F5.up (show 36 ≠ 69 by decide)).keep (e68 36 (by omega) (by omega)))
  have F6 := hf71.2.1
  have R48 := R48.keep (fun x h1 h2 => c71 x (by omega) (by omega))
  have R55 := R55.keep (fun x h1 h2 => c71 x (by omega) (by omega))
  have R62 := R62.keep (fun x h1 h2 => c71 x (by omega) (by omega))
  have R69 := R68.keep (fun x h1 h2 => hf71.1 x (by omega))
  refine x_vret (pc := 74) dX2_init_74 rfl ⟨rfl, rfl, fun x hx => (c71 x (by omega) (by omega)).trans ((c59 x (by omega) (by omega)).trans ((c47 x (by omega) (by omega)).trans ((c35 x (by omega) (by omega)).trans ((c23 x (by omega) (by omega)).trans (gr_old (by omega)))))), fun _ _ => 0, ⟨55, 62, 69, ⟨F0, F1, F2, F3, F4, F5, F6⟩, ⟨⟨fun i => if i < 10 then some (37 + 1 + i) else none, by
    rw [c71 37 (by omega) (by omega), c59 37 (by omega) (by omega), c47 37 (by omega) (by omega), c35 37 (by omega) (by omega), c23 37 (by omega) (by omega), grid, if_pos rfl]
    rfl, fun i hi => if_pos hi⟩, fun i hi => by
    rw [c71 _ (by omega) (by omega), c59 _ (by omega) (by omega), c47 _ (by omega) (by omega), c35 _ (by omega) (by omega), c23 _ (by omega) (by omega), grid, if_neg (by omega), if_pos ⟨by omega, by have : (10 : Int).toNat = 10 := rfl; omega⟩]
    rfl⟩, ⟨_, _, _, _, R48, hin⟩, ⟨_, _, _, _, R55, hin⟩, ⟨_, _, _, _, R62, hin⟩, ⟨_, _, _, _, R69, hin⟩, Or.inl rfl, Or.inr (Or.inl rfl), Or.inr (Or.inr rfl), by decide, by decide, by decide⟩, fun _ _ => rfl⟩

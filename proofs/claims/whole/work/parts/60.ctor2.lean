theorem strI2 : "[" ++ FieldType.int.toString = (FieldType.array .int).toString := by decide +kernel
theorem strII : "[[I" = "[" ++ (FieldType.array .int).toString := by decide +kernel
theorem gr_old {hp : HP} {sz kk n m x : Nat} (h : x < sz) : grid hp sz kk n m x = hp x := by
  unfold grid
  rw [if_neg (by omega), if_neg (by omega)]

set_option maxRecDepth 4000 in
theorem n_Rows {G : GL} {d : Nat} {hp : HP} {sz b p : Nat} (ob0 : isob hp b 3) (hb : b + 1 = sz) (hs : sz + 10 < 700000) (hc : fld hp b 3 3 (vi (0 : Nat))) (hw : fld hp b 3 4 (vi (0 : Nat))) : Ct G (d + 1) 6 44 mX3_init [vr b, vi p] hp sz (fun r h z => r = none ∧ z = sz + 6 ∧ (∀ x, x < sz → x ≠ b → h x = hp x) ∧ RowsA h b p (fun _ _ => 0) (fun _ => 0) 0 0) := by
  show Ex _ _ _ _ _ _ [vr b, vi p] _ _ _ _
  refine x_aload_n (pc := 0) dX3_init_0 rfl ?_
  refine x_objInit (pc := 1) dX3_init_1 kX3_3 oi_inst oi_code (by omega) (Nat.le_of_ble_eq_true rfl) ?_
  refine x_aload_n (pc := 4) dX3_init_4 rfl ?_
  refine x_iconst (pc := 5) dX3_init_5 ?_
  refine x_bipush (pc := 6) dX3_init_6 (by decide) ?_
  refine x_multi (pc := 8) (rc := 1) (rs := 8) (kk := 0) (ty := .int) (n := 4) (m := 8) dX3_init_8 (by decide) rfl rfl strI2 rfl rfl rfl (by decide) (by rw [← strII]; exact nX3_9) (by simp [AOs]) ac_int (by decide) (by decide) (by have : (4 : Int).toNat = 4 := rfl; omega) ?_
  rw [show sz + 1 + (4 : Int).toNat = sz + 5 from rfl]
  refine x_pFv (pc := 12) dX3_init_12 pX3_11 rfl (fit_arr _ _) (by obtain ⟨fs, hfs⟩ := ob0; exact ⟨fs, (gr_old (by omega)).trans hfs⟩) (by omega) (fun hp12 hf12 => ?_)
  have ob1 := hf12.2.1.ob
  refine x_aload_n (pc := 15) dX3_init_15 rfl ?_
  refine x_bipush (pc := 16) dX3_init_16 (by decide) ?_
  refine x_newarr (pc := 18) (rc := 0) (rs := 0) (kk := 0) (at0 := .int) (n := 8) dX3_init_18 rfl (by decide) rfl (by decide) ac_int (by decide) (by omega) ?_
  refine x_pFv (pc := 20) dX3_init_20 pX3_16 rfl (fit_arr _ _) (by obtain ⟨fs, hfs⟩ := ob1; exact ⟨fs, (up_n _ _ (by omega)).trans hfs⟩) (by omega) (fun hp20 hf20 => ?_)
  have ob2 := hf20.2.1.ob
  refine x_aload_n (pc := 23) dX3_init_23 rfl ?_
  refine x_iload_n (pc := 24) dX3_init_24 rfl ?_
  refine x_pFv (pc := 25) dX3_init_25 pX3_20 rfl (fit_int _) ob2 (by omega) (fun hp25 hf25 => ?_)
  refine x_vret (pc := 28) dX3_init_28 rfl (by
    have e1 : ∀ x, x < sz → x ≠ b → hp25 x = hp x := fun x h1 h2 => (hf25.1 x h2).trans ((hf20.1 x h2).trans ((up_n _ _ (by omega)).trans ((hf12.1 x h2).trans (gr_old (by omega)))))
    have e2 : ∀ x, sz ≤ x → x < sz + 5 → hp25 x = grid hp sz 0 (4 : Int).toNat (8 : Int).toNat x := fun x h1 h2 => (hf25.1 x (by omega)).trans ((hf20.1 x (by omega)).trans ((up_n _ _ (by omega)).trans (hf12.1 x (by omega))))
    have e3 : hp25 (sz + 5) = ar 0 8 (fun _ => 0) := (hf25.1 _ (by omega)).trans ((hf20.1 _ (by omega)).trans (up_s _ _ _))
    have hg : ∀ {j : Nat} {v : AV}, fld hp b 3 j v → fld (grid hp sz 0 (4 : Int).toNat (8 : Int).toNat) b 3 j v := fun h => h.keep (gr_old (by omega))
    refine ⟨rfl, rfl, e1, ?_⟩
    subst hb
    refine ⟨fun i => if i < 4 then some (b + 2 + i) else none, fun i => b + 2 + i, hf25.2.1, hf25.2.2 _ _ (by decide) (hf20.2.2 _ _ (by decide) ((hf12.2.1).up (by omega))), hf25.2.2 _ _ (by decide) hf20.2.1, hf25.2.2 _ _ (by decide) (hf20.2.2 _ _ (by decide) ((hf12.2.2 _ _ (by decide) (hg hc)).up (by omega))), hf25.2.2 _ _ (by decide) (hf20.2.2 _ _ (by decide) ((hf12.2.2 _ _ (by decide) (hg hw)).up (by omega))), e3, ?_, fun i hi => ⟨if_pos hi, by dsimp only; omega, by dsimp only; omega, ?_⟩, fun i j _ _ h => by dsimp only at h; omega⟩
    · rw [e2 (b + 1) (by omega) (by omega), grid, if_pos rfl]
      refine congrArg _ (funext fun i => ?_)
      rfl
    · dsimp only
      rw [e2 (b + 2 + i) (by omega) (by omega), grid, if_neg (by omega), if_pos ⟨by omega, by have : (4 : Int).toNat = 4 := rfl; omega⟩]
      rfl)

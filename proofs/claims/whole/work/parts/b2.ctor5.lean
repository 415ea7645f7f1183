/-! the constructor of SpanLoomModel -/
theorem Ex.glob {G : GL} {d rc rs : Nat} {M : MD} {pc : Nat} {ls st : List AV} {hp : HP} {sz : Nat} {Q : Option AV → HP → Nat → Prop} (k : (∀ i, i < 3 → hp (1000000 + i) = ar 0 (G.2.2.2.2.2 i).1 (G.2.2.2.2.2 i).2) → Ex G d rc rs M pc ls st hp sz Q) : Ex G d rc rs M pc ls st hp sz Q := by
  intro p l e R s m args below meth c H locs cells slots lsR C h1 h2 h3 h4 h5
  exact k h3.2.2.2.2 p l e R s m args below meth c H locs cells slots lsR C h1 h2 h3 h4 h5
theorem strJ2 : "[" ++ FieldType.long.toString = (FieldType.array .long).toString := by decide +kernel
theorem strJJ : "[[J" = "[" ++ (FieldType.array .long).toString := by decide +kernel
theorem strB2 : "[" ++ FieldType.byte.toString = (FieldType.array .byte).toString := by decide +kernel
theorem strBB : "[[B" = "[" ++ (FieldType.array .byte).toString := by decide +kernel

theorem k_mprime {G : GL} {d sz : Nat} {hp : HP} {f : Nat → Int} (hX : hp 1000002 = ar 0 6 f) (hf : ∀ i, i < 6 → f i = prm i) {x y : Int} (hx : -2147483648 ≤ x ∧ x < 2147483648) {Q : Option AV → HP → Nat → Prop} (hq : Ex G d 0 0 mX7_init 219 [vr 92, vi x, vi y, vi (gk x 6), vi (6 : Nat)] [] hp sz Q) : ∀ k, k ≤ 6 → Ex G d 0 0 mX7_init 187 [vr 92, vi x, vi y, vi (gk x k), vi k] [] hp sz Q := by
  refine down ?_ (fun k hk ih => ?_)
  · refine x_iload (pc := 187) dX7_init_187 rfl ?_
    refine x_gets (pc := 189) (j := 2) dX7_init_189 (Or.inr ⟨rfl, rfl⟩) fX7_77 ?_
    refine x_alenX (pc := 192) (j := 2) dX7_init_192 (by omega) hX ?_
    refine x_icmp_ge (pc := 193) (tgt := 219) dX7_init_193 (by decide) (by omega) (by omega) (fun c193 => ?_) (fun c193 => ?_)
    · exact hq
    · exact absurd c193 (by omega)
  · refine x_iload (pc := 187) dX7_init_187 rfl ?_
    refine x_gets (pc := 189) (j := 2) dX7_init_189 (Or.inr ⟨rfl, rfl⟩) fX7_77 ?_
    refine x_alenX (pc := 192) (j := 2) dX7_init_192 (by omega) hX ?_
    refine x_icmp_ge (pc := 193) (tgt := 219) dX7_init_193 (by decide) (by omega) (by omega) (fun c193 => ?_) (fun c193 => ?_)
    · exact absurd c193 (by omega)
    · refine x_gets (pc := 196) (j := 2) dX7_init_196 (Or.inr ⟨rfl, rfl⟩) fX7_77 ?_
      refine x_iload (pc := 199) dX7_init_199 rfl ?_
      refine x_ialdX (pc := 201) (j := 2) dX7_init_201 (by omega) hX (by omega) (by omega) ?_
      rw [show f ((k : Int)).toNat = prm k from hf _ (by omega)]
      have hpr := prm_rg k (by omega)
      refine x_iload_n (pc := 202) dX7_init_202 rfl ?_
      refine x_icmp_gt (pc := 203) (tgt := 213) dX7_init_203 (by decide) (by omega) (by omega) (fun c203 => ?_) (fun c203 => ?_)
      · refine x_iinc (pc := 213) dX7_init_213 rfl (by decide) rfl ?_
        show Ex _ _ _ _ _ _ [_, _, _, _, _] _ _ _ _
        refine x_goto (pc := 216) (tgt := 187) dX7_init_216 (by decide) ?_
        first
          | exact (show gk x (k + 1) = prm k by rw [gk, if_pos c203]) ▸ ih
          | exact (show gk x (k + 1) = gk x k by rw [gk, if_neg (by omega)]) ▸ ih
      · refine x_gets (pc := 206) (j := 2) dX7_init_206 (Or.inr ⟨rfl, rfl⟩) fX7_77 ?_
        refine x_iload (pc := 209) dX7_init_209 rfl ?_
        refine x_ialdX (pc := 211) (j := 2) dX7_init_211 (by omega) hX (by omega) (by omega) ?_
        rw [show f ((k : Int)).toNat = prm k from hf _ (by omega)]
        have hpr := prm_rg k (by omega)
        refine x_istore_n (pc := 212) dX7_init_212 (by decide) rfl ?_
        show Ex _ _ _ _ _ _ [_, _, _, _, _] _ _ _ _
        refine x_iinc (pc := 213) dX7_init_213 rfl (by decide) rfl ?_
        show Ex _ _ _ _ _ _ [_, _, _, _, _] _ _ _ _
        refine x_goto (pc := 216) (tgt := 187) dX7_init_216 (by decide) ?_
        first
          | exact (show gk x (k + 1) = prm k by rw [gk, if_pos c203]) ▸ ih
          | exact (show gk x (k + 1) = gk x k by rw [gk, if_neg (by omega)]) ▸ ih

set_option maxRecDepth 4000 in
theorem k_mfin {G : GL} {d p N : Nat} {hp : HP} {x y : Int} (hy : -2147483648 ≤ y ∧ y < 2147483648) (ep : gk x 6 = (p : Int)) (eN : max 1 (min 8 y) = (N : Int)) {Q : Option AV → HP → Nat → Prop} (hq : ∀ h, MOI p N (fun _ => 0) (fun _ => 0) (fun _ => 0) h → (∀ z, z ≠ 92 → h z = hp z) → Q none h 615) (F9 : fld hp 92 7 9 (vi 0)) (F10 : fld hp 92 7 10 (vi 0)) (F2 : fld hp 92 7 2 (vr 93)) (F3 : fld hp 92 7 3 (vr 94)) (F4 : fld hp 92 7 4 (vr 95)) (F5 : fld hp 92 7 5 (vr 96)) (F6 : fld hp 92 7 6 (vr 97)) (F7 : fld hp 92 7 7 (vr 98)) (F8 : fld hp 92 7 8 (vr 359)) (F11 : fld hp 92 7 11 (vr 360)) (F12 : fld hp 92 7 12 (vr 361)) (F13 : fld hp 92 7 13 (vr 362)) (F14 : fld hp 92 7 14 (vr 396)) (F15 : fld hp 92 7 15 (vr 397)) (F16 : fld hp 92 7 16 (vr 398)) (F17 : fld hp 92 7 17 (vr 399)) (F18 : fld hp 92 7 18 (vr 400)) (F19 : fld hp 92 7 19 (vr 401)) (F20 : fld hp 92 7 20 (vr 402)) (F21 : fld hp 92 7 21 (vr 403)) (F22 : fld hp 92 7 22 (vr 413)) (F23 : fld hp 92 7 23 (vr 414)) (g93 : hp 93 = ar 0 8 (fun _ => 0)) (g94 : hp 94 = ar 0 64 (fun _ => 0)) (g95 : hp 95 = ar 0 1024 (fun _ => 0)) (g96 : hp 96 = ar 0 8 (fun _ => 0)) (g97 : hp 97 = ar 0 128 (fun _ => 0)) (g98 : hp 98 = rr 5 260 (fun i => if i < 260 then some (98 + 1 + i) else none)) (r98 : ∀ i, i < 260 → hp (98 + 1 + i) = ar 0 130 (fun _ => 0)) (g359 : hp 359 = ar 0 260 (fun _ => 0)) (g360 : hp 360 = ar 0 9 (fun _ => 0)) (g361 : hp 361 = ar 0 9 (fun _ => 0)) (g362 : hp 362 = rr 5 33 (fun i => if i < 33 then some (362 + 1 + i) else none)) (r362 : ∀ i, i < 33 → hp (362 + 1 + i) = ar 0 4 (fun _ => 0)) (g396 : hp 396 = ar 0 4 (fun _ => 0)) (g397 : hp 397 = ar 0 4 (fun _ => 0)) (g398 : hp 398 = ar 0 64 (fun _ => 0)) (g399 : hp 399 = ar 0 64 (fun _ => 0)) (g400 : hp 400 = ar 0 2 (fun _ => 0)) (g401 : hp 401 = ar 0 32 (fun _ => 0)) (g402 : hp 402 = ar 3 32 (fun _ => 0)) (g403 : hp 403 = rr 6 9 (fun i => if i < 9 then some (403 + 1 + i) else none)) (r403 : ∀ i, i < 9 → hp (403 + 1 + i) = ar 1 9 (fun _ => 0)) (g413 : hp 413 = ar 0 9 (fun _ => 0)) (g414 : hp 414 = rr 7 200 (fun i => if i < 200 then some (414 + 1 + i) else none)) (r414 : ∀ i, i < 200 → hp (414 + 1 + i) = ar 2 9 (fun _ => 0)) : Ex G (d + 1) 0 0 mX7_init 219 [vr 92, vi x, vi y, vi (gk x 6), vi (6 : Nat)] [] hp 615 Q := by
  refine x_aload_n (pc := 219) dX7_init_219 rfl ?_
  refine x_iload_n (pc := 220) dX7_init_220 rfl ?_
  rw [ep]
  refine x_pFv (pc := 221) dX7_init_221 pX7_80 rfl (fit_int _) F2.ob (by omega) (fun hp221 hf221 => ?_)
  refine x_aload_n (pc := 224) dX7_init_224 rfl ?_
  refine x_iconst (pc := 225) dX7_init_225 ?_
  refine x_bipush (pc := 226) dX7_init_226 (by decide) ?_
  refine x_iload_n (pc := 228) dX7_init_228 rfl ?_
  refine x_t2 (pc := 229) dX7_init_229 wJ9_min_7cf53 sJ9_min_7cf53 kX7_84 (by decide) rfl (Nat.le_of_ble_eq_true rfl) (t_min (by omega) hy) ?_
  refine x_t2 (pc := 232) dX7_init_232 wJ9_max_7cf53 sJ9_max_7cf53 kX7_90 (by decide) rfl (Nat.le_of_ble_eq_true rfl) (t_max (by omega) (by omega)) ?_
  rw [eN]
  refine x_pFv (pc := 235) dX7_init_235 pX7_93 rfl (fit_int _) hf221.2.1.ob (by omega) (fun hp235 hf235 => ?_)
  have e : ∀ x, x ≠ 92 → hp235 x = hp x := fun x h => (hf235.1 x h).trans (hf221.1 x h)
  refine x_vret (pc := 238) dX7_init_238 rfl (hq _ ⟨⟨fun _ _ => 0, fun _ => 0, 0, 0, _, fun i => 99 + i, fun _ => 0, fun _ _ => 0, ⟨hf235.2.2 _ _ (by decide) hf221.2.1, hf235.2.1, (hf235.2.2 _ _ (by decide) (hf221.2.2 _ _ (by decide) F2)), (hf235.2.2 _ _ (by decide) (hf221.2.2 _ _ (by decide) F3)), (hf235.2.2 _ _ (by decide) (hf221.2.2 _ _ (by decide) F4)), (hf235.2.2 _ _ (by decide) (hf221.2.2 _ _ (by decide) F5)), (hf235.2.2 _ _ (by decide) (hf221.2.2 _ _ (by decide) F6)), (hf235.2.2 _ _ (by decide) (hf221.2.2 _ _ (by decide) F7)), (hf235.2.2 _ _ (by decide) (hf221.2.2 _ _ (by decide) F8)), (hf235.2.2 _ _ (by decide) (hf221.2.2 _ _ (by decide) F11)), (hf235.2.2 _ _ (by decide) (hf221.2.2 _ _ (by decide) F12)), (hf235.2.2 _ _ (by decide) (hf221.2.2 _ _ (by decide) F13)), (hf235.2.2 _ _ (by decide) (hf221.2.2 _ _ (by decide) F14)), (hf235.2.2 _ _ (by decide) (hf221.2.2 _ _ (by decide) F15)), (hf235.2.2 _ _ (by decide) (hf221.2.2 _ _ (by decide) F16)), (hf235.2.2 _ _ (by decide) (hf221.2.2 _ _ (by decide) F17)), (hf235.2.2 _ _ (by decide) (hf221.2.2 _ _ (by decide) F18)), (hf235.2.2 _ _ (by decide) (hf221.2.2 _ _ (by decide) F19)), (hf235.2.2 _ _ (by decide) (hf221.2.2 _ _ (by decide) F20)), (hf235.2.2 _ _ (by decide) (hf221.2.2 _ _ (by decide) F21)), (hf235.2.2 _ _ (by decide) (hf221.2.2 _ _ (by decide) F22)), (hf235.2.2 _ _ (by decide) (hf221.2.2 _ _ (by decide) F23))⟩, ⟨((e 93 (by omega)).trans g93), ((e 94 (by omega)).trans g94), ((e 95 (by omega)).trans g95), fun _ _ => by show 0 < 128; decide⟩, ⟨(hf235.2.2 _ _ (by decide) (hf221.2.2 _ _ (by decide) F9)), (hf235.2.2 _ _ (by decide) (hf221.2.2 _ _ (by decide) F10)), ((e 359 (by omega)).trans g359), ((e 98 (by omega)).trans g98), fun i hi => ⟨if_pos hi, by dsimp only; omega, by dsimp only; omega, (e _ (by dsimp only; omega)).trans (r98 i hi)⟩, fun i j _ _ h => by dsimp only at h; omega⟩, ((e 361 (by omega)).trans g361), ⟨_, ((e 362 (by omega)).trans g362), fun i hi => if_pos hi⟩, fun i hi => (e _ (by omega)).trans (r362 i hi)⟩, ⟨_, _, ((e 96 (by omega)).trans g96), ((e 97 (by omega)).trans g97)⟩, ⟨_, ((e 360 (by omega)).trans g360)⟩, ⟨_, _, ((e 396 (by omega)).trans g396), ((e 397 (by omega)).trans g397)⟩, ⟨_, _, _, ((e 398 (by omega)).trans g398), ((e 399 (by omega)).trans g399), ((e 400 (by omega)).trans g400)⟩, ⟨_, fun _ => 0, ((e 401 (by omega)).trans g401), ((e 402 (by omega)).trans g402), fun _ => Or.inl rfl⟩, ⟨fun i => i, fun _ _ => 0, ⟨_, ((e 403 (by omega)).trans g403), fun i hi => if_pos hi⟩, fun i hi => hi, fun i j _ _ h => h, fun i hi => (e _ (by omega)).trans (r403 i hi)⟩, ⟨_, ((e 413 (by omega)).trans g413)⟩, fun _ _ => 0, ⟨_, ((e 414 (by omega)).trans g414), fun i hi => if_pos hi⟩, fun i hi => (e _ (by omega)).trans (r414 i hi), fun _ _ _ _ => ⟨by show (-128 : Int) ≤ 0; decide, by show (0 : Int) < 128; decide⟩⟩ e)

set_option maxRecDepth 4000 in
set_option maxHeartbeats 1000000 in
theorem n_Model {G : GL} {d p N : Nat} {hp : HP} (ob0 : isob hp 92 7) (F9 : fld hp 92 7 9 (vi 0)) (F10 : fld hp 92 7 10 (vi 0)) (hG1 : (G.2.2.2.2.2 2).1 = 6) (hG2 : ∀ i, i < 6 → (G.2.2.2.2.2 2).2 i = prm i) {x : Int} (hx : -2147483648 ≤ x ∧ x < 2147483648) {y : Int} (hy : -2147483648 ≤ y ∧ y < 2147483648) (ep : gk x 6 = (p : Int)) (eN : max 1 (min 8 y) = (N : Int)) : Ct G (d + 1) 522 38036 mX7_init [vr 92, vi x, vi y] hp 93 (fun r h z => r = none ∧ z = 615 ∧ (∀ x, x < 92 → h x = hp x) ∧ MOI p N (fun _ => 0) (fun _ => 0) (fun _ => 0) h) := by
  show Ex _ _ _ _ _ _ [vr 92, vi x, vi y, vu, vu] _ _ _ _
  refine x_aload_n (pc := 0) dX7_init_0 rfl ?_
  refine x_objInit (pc := 1) dX7_init_1 kX7_3 oi_inst oi_code (by omega) (Nat.le_of_ble_eq_true rfl) ?_
  refine x_aload_n (pc := 4) dX7_init_4 rfl ?_
  refine x_bipush (pc := 5) dX7_init_5 (by decide) ?_
  refine x_newarr (pc := 7) (rc := 521) (rs := 38028) (kk := 0) (at0 := .int) (n := 8) dX7_init_7 rfl (by decide) rfl (by decide) ac_int (by decide) (by omega) ?_
  refine x_pFv (pc := 9) dX7_init_9 pX7_9 rfl (fit_arr _ _) ((show isob hp 92 7 from ob0).elim fun fs hfs => ⟨fs, (up_n _ _ (by omega)).trans hfs⟩) (by omega) (fun hp9 hf9 => ?_)
  have c93 : ∀ x, x < 93 → x ≠ 92 → hp9 x = hp x := fun x h1 h2 => (hf9.1 x h2).trans (up_n _ _ (by omega))
  have F9 := hf9.2.2 _ _ (by decide) (F9.keep (show _ = _ from (up_n _ _ (by omega))))
  have F10 := hf9.2.2 _ _ (by decide) (F10.keep (show _ = _ from (up_n _ _ (by omega))))
  have F2 := hf9.2.1
  have g93 : hp9 93 = ar 0 8 (fun _ => 0) := (hf9.1 _ (by omega)).trans (up_s _ _ _)
  refine x_aload_n (pc := 12) dX7_init_12 rfl ?_
  refine x_bipush (pc := 13) dX7_init_13 (by decide) ?_
  refine x_newarr (pc := 15) (rc := 520) (rs := 37964) (kk := 0) (at0 := .int) (n := 64) dX7_init_15 rfl (by decide) rfl (by decide) ac_int (by decide) (by omega) ?_
  refine x_pFv (pc := 17) dX7_init_17 pX7_13 rfl (fit_arr _ _) ((show isob hp9 92 7 from F9.ob).elim fun fs hfs => ⟨fs, (up_n _ _ (by omega)).trans hfs⟩) (by omega) (fun hp17 hf17 => ?_)
  have c94 : ∀ x, x < 94 → x ≠ 92 → hp17 x = hp9 x := fun x h1 h2 => (hf17.1 x h2).trans (up_n _ _ (by omega))
  have F9 := hf17.2.2 _ _ (by decide) (F9.keep (show _ = _ from (up_n _ _ (by omega))))
  have F10 := hf17.2.2 _ _ (by decide) (F10.keep (show _ = _ from (up_n _ _ (by omega))))
  have F2 := hf17.2.2 _ _ (by decide) (F2.keep (show _ = _ from (up_n _ _ (by omega))))
  have F3 := hf17.2.1
  have g94 : hp17 94 = ar 0 64 (fun _ => 0) := (hf17.1 _ (by omega)).trans (up_s _ _ _)
  refine x_aload_n (pc := 20) dX7_init_20 rfl ?_
  refine x_sipush (pc := 21) dX7_init_21 (by decide) ?_
  refine x_newarr (pc := 24) (rc := 519) (rs := 36940) (kk := 0) (at0 := .int) (n := 1024) dX7_init_24 rfl (by decide) rfl (by decide) ac_int (by decide) (by omega) ?_
  refine x_pFv (pc := 26) dX7_init_26 pX7_16 rfl (fit_arr _ _) ((show isob hp17 92 7 from F9.ob).elim fun fs hfs => ⟨fs, (up_n _ _ (by omega)).trans hfs⟩) (by omega) (fun hp26 hf26 => ?_)
  have c95 : ∀ x, x < 95 → x ≠ 92 → hp26 x = hp17 x := fun x h1 h2 => (hf26.1 x h2).trans (up_n _ _ (by omega))
  have F9 := hf26.2.2 _ _ (by decide) (F9.keep (show _ = _ from (up_n _ _ (by omega))))
  have F10 := hf26.2.2 _ _ (by decide) (F10.keep (show _ = _ from (up_n _ _ (by omega))))
  have F2 := hf26.2.2 _ _ (by decide) (F2.keep (show _ = _ from (up_n _ _ (by omega))))
  have F3 := hf26.2.2 _ _ (by decide) (F3.keep (show _ = _ from (up_n _ _ (by omega))))
  have F4 := hf26.2.1
  have g95 : hp26 95 = ar 0 1024 (fun _ => 0) := (hf26.1 _ (by omega)).trans (up_s _ _ _)
  refine x_aload_n (pc := 29) dX7_init_29 rfl ?_
  refine x_bipush (pc := 30) dX7_init_30 (by decide) ?_
  refine x_newarr (pc := 32) (rc := 518) (rs := 36932) (kk := 0) (at0 := .int) (n := 8) dX7_init_32 rfl (by decide) rfl (by decide) ac_int (by decide) (by omega) ?_
  refine x_pFv (pc := 34) dX7_init_34 pX7_19 rfl (fit_arr _ _) ((show isob hp26 92 7 from F9.ob).elim fun fs hfs => ⟨fs, (up_n _ _ (by omega)).trans hfs⟩) (by omega) (fun hp34 hf34 => ?_)
  have c96 : ∀ x, x < 96 → x ≠ 92 → hp34 x = hp26 x := fun x h1 h2 => (hf34.1 x h2).trans (up_n _ _ (by omega))
  have F9 := hf34.2.2 _ _ (by decide) (F9.keep (show _ = _ from (up_n _ _ (by omega))))
  have F10 := hf34.2.2 _ _ (by decide) (F10.keep (show _ = _ from (up_n _ _ (by omega))))
  have F2 := hf34.2.2 _ _ (by decide) (F2.keep (show _ = _ from (up_n _ _ (by omega))))
  have F3 := hf34.2.2 _ _ (by decide) (F3.keep (show _ = _ from (up_n _ _ (by omega))))
  have F4 := hf34.2.2 _ _ (by decide) (F4.keep (show _ = _ from (up_n _ _ (by omega))))
  have F5 := hf34.2.1
  have g96 : hp34 96 = ar 0 8 (fun _ => 0) := (hf34.1 _ (by omega)).trans (up_s _ _ _)
  refine x_aload_n (pc := 37) dX7_init_37 rfl ?_
  refine x_sipush (pc := 38) dX7_init_38 (by decide) ?_
  refine x_newarr (pc := 41) (rc := 517) (rs := 36804) (kk := 0) (at0 := .int) (n := 128) dX7_init_41 rfl (by decide) rfl (by decide) ac_int (by decide) (by omega) ?_
  refine x_pFv (pc := 43) dX7_init_43 pX7_22 rfl (fit_arr _ _) ((show isob hp34 92 7 from F9.ob).elim fun fs hfs => ⟨fs, (up_n _ _ (by omega)).trans hfs⟩) (by omega) (fun hp43 hf43 => ?_)
  have c97 : ∀ x, x < 97 → x ≠ 92 → hp43 x = hp34 x := fun x h1 h2 => (hf43.1 x h2).trans (up_n _ _ (by omega))
  have F9 := hf43.2.2 _ _ (by decide) (F9.keep (show _ = _ from (up_n _ _ (by omega))))
  have F10 := hf43.2.2 _ _ (by decide) (F10.keep (show _ = _ from (up_n _ _ (by omega))))
  have F2 := hf43.2.2 _ _ (by decide) (F2.keep (show _ = _ from (up_n _ _ (by omega))))
  have F3 := hf43.2.2 _ _ (by decide) (F3.keep (show _ = _ from (up_n _ _ (by omega))))
  have F4 := hf43.2.2 _ _ (by decide) (F4.keep (show _ = _ from (up_n _ _ (by omega))))
  have F5 := hf43.2.2 _ _ (by decide) (F5.keep (show _ = _ from (up_n _ _ (by omega))))
  have F6 := hf43.2.1
  have g97 : hp43 97 = ar 0 128 (fun _ => 0) := (hf43.1 _ (by omega)).trans (up_s _ _ _)
  refine x_aload_n (pc := 46) dX7_init_46 rfl ?_
  refine x_sipush (pc := 47) dX7_init_47 (by decide) ?_
  refine x_sipush (pc := 50) dX7_init_50 (by decide) ?_
  refine x_multi (pc := 53) (rc := 256) (rs := 2744) (kk := 0) (ty := .int) (n := 260) (m := 130) dX7_init_53 (by decide) rfl rfl strI2 rfl rfl rfl (by decide) (by rw [← strII]; exact nX7_25) (by simp [AOs]) ac_int (by decide) (by decide) (by have : (260 : Int).toNat = 260 := rfl; omega) ?_
  rw [show 98 + 1 + (260 : Int).toNat = 359 from rfl]
  refine x_pFv (pc := 57) dX7_init_57 pX7_27 rfl (fit_arr _ _) ((show isob hp43 92 7 from F9.ob).elim fun fs hfs => ⟨fs, (gr_old (by omega)).trans hfs⟩) (by omega) (fun hp57 hf57 => ?_)
  have c98 : ∀ x, x < 98 → x ≠ 92 → hp57 x = hp43 x := fun x h1 h2 => (hf57.1 x h2).trans (gr_old (by omega))
  have F9 := hf57.2.2 _ _ (by decide) (F9.keep (show _ = _ from (gr_old (by omega))))
  have F10 := hf57.2.2 _ _ (by decide) (F10.keep (show _ = _ from (gr_old (by omega))))
  have F2 := hf57.2.2 _ _ (by decide) (F2.keep (show _ = _ from (gr_old (by omega))))
  have F3 := hf57.2.2 _ _ (by decide) (F3.keep (show _ = _ from (gr_old (by omega))))
  have F4 := hf57.2.2 _ _ (by decide) (F4.keep (show _ = _ from (gr_old (by omega))))
  have F5 := hf57.2.2 _ _ (by decide) (F5.keep (show _ = _ from (gr_old (by omega))))
  have F6 := hf57.2.2 _ _ (by decide) (F6.keep (show _ = _ from (gr_old (by omega))))
  have F7 := hf57.2.1
  have g98 : hp57 98 = rr 5 260 (fun i => if i < 260 then some (98 + 1 + i) else none) := (hf57.1 _ (by omega)).trans (by rw [grid, if_pos rfl]; rfl)
  have r98 : ∀ i, i < 260 → hp57 (98 + 1 + i) = ar 0 130 (fun _ => 0) := fun i hi => (hf57.1 _ (by omega)).trans (by
    rw [grid, if_neg (by omega), if_pos ⟨by omega, by have : (260 : Int).toNat = 260 := rfl; omega⟩]
    rfl)
  refine x_aload_n (pc := 60) dX7_init_60 rfl ?_
  refine x_sipush (pc := 61) dX7_init_61 (by decide) ?_
  refine x_newarr (pc := 64) (rc := 255) (rs := 2484) (kk := 0) (at0 := .int) (n := 260) dX7_init_64 rfl (by decide) rfl (by decide) ac_int (by decide) (by omega) ?_
  refine x_pFv (pc := 66) dX7_init_66 pX7_30 rfl (fit_arr _ _) ((show isob hp57 92 7 from F9.ob).elim fun fs hfs => ⟨fs, (up_n _ _ (by omega)).trans hfs⟩) (by omega) (fun hp66 hf66 => ?_)
  have c359 : ∀ x, x < 359 → x ≠ 92 → hp66 x = hp57 x := fun x h1 h2 => (hf66.1 x h2).trans (up_n _ _ (by omega))
  have F9 := hf66.2.2 _ _ (by decide) (F9.keep (show _ = _ from (up_n _ _ (by omega))))
  have F10 := hf66.2.2 _ _ (by decide) (F10.keep (show _ = _ from (up_n _ _ (by omega))))
  have F2 := hf66.2.2 _ _ (by decide) (F2.keep (show _ = _ from (up_n _ _ (by omega))))
  have F3 := hf66.2.2 _ _ (by decide) (F3.keep (show _ = _ from (up_n _ _ (by omega))))
  have F4 := hf66.2.2 _ _ (by decide) (F4.keep (show _ = _ from (up_n _ _ (by omega))))
  have F5 := hf66.2.2 _ _ (by decide) (F5.keep (show _ = _ from (up_n _ _ (by omega))))
  have F6 := hf66.2.2 _ _ (by decide) (F6.keep (show _ = _ from (up_n _ _ (by omega))))
  have F7 := hf66.2.2 _ _ (by decide) (F7.keep (show _ = _ from (up_n _ _ (by omega))))
  have F8 := hf66.2.1
  have g359 : hp66 359 = ar 0 260 (fun _ => 0) := (hf66.1 _ (by omega)).trans (up_s _ _ _)
  refine x_aload_n (pc := 69) dX7_init_69 rfl ?_
  refine x_bipush (pc := 70) dX7_init_70 (by decide) ?_
  refine x_newarr (pc := 72) (rc := 254) (rs := 2475) (kk := 0) (at0 := .int) (n := 9) dX7_init_72 rfl (by decide) rfl (by decide) ac_int (by decide) (by omega) ?_
  refine x_pFv (pc := 74) dX7_init_74 pX7_33 rfl (fit_arr _ _) ((show isob hp66 92 7 from F9.ob).elim fun fs hfs => ⟨fs, (up_n _ _ (by omega)).trans hfs⟩) (by omega) (fun hp74 hf74 => ?_)
  have c360 : ∀ x, x < 360 → x ≠ 92 → hp74 x = hp66 x := fun x h1 h2 => (hf74.1 x h2).trans (up_n _ _ (by omega))
  have F9 := hf74.2.2 _ _ (by decide) (F9.keep (show _ = _ from (up_n _ _ (by omega))))
  have F10 := hf74.2.2 _ _ (by decide) (F10.keep (show _ = _ from (up_n _ _ (by omega))))
  have F2 := hf74.2.2 _ _ (by decide) (F2.keep (show _ = _ from (up_n _ _ (by omega))))
  have F3 := hf74.2.2 _ _ (by decide) (F3.keep (show _ = _ from (up_n _ _ (by omega))))
  have F4 := hf74.2.2 _ _ (by decide) (F4.keep (show _ = _ from (up_n _ _ (by omega))))
  have F5 := hf74.2.2 _ _ (by decide) (F5.keep (show _ = _ from (up_n _ _ (by omega))))
  have F6 := hf74.2.2 _ _ (by decide) (F6.keep (show _ = _ from (up_n _ _ (by omega))))
  have F7 := hf74.2.2 _ _ (by decide) (F7.keep (show _ = _ from (up_n _ _ (by omega))))
  have F8 := hf74.2.2 _ _ (by decide) (F8.keep (show _ = _ from (up_n _ _ (by omega))))
  have F11 := hf74.2.1
  have g360 : hp74 360 = ar 0 9 (fun _ => 0) := (hf74.1 _ (by omega)).trans (up_s _ _ _)
  refine x_aload_n (pc := 77) dX7_init_77 rfl ?_
  refine x_bipush (pc := 78) dX7_init_78 (by decide) ?_
  refine x_newarr (pc := 80) (rc := 253) (rs := 2466) (kk := 0) (at0 := .int) (n := 9) dX7_init_80 rfl (by decide) rfl (by decide) ac_int (by decide) (by omega) ?_
  refine x_pFv (pc := 82) dX7_init_82 pX7_36 rfl (fit_arr _ _) ((show isob hp74 92 7 from F9.ob).elim fun fs hfs => ⟨fs, (up_n _ _ (by omega)).trans hfs⟩) (by omega) (fun hp82 hf82 => ?_)
  have c361 : ∀ x, x < 361 → x ≠ 92 → hp82 x = hp74 x := fun x h1 h2 => (hf82.1 x h2).trans (up_n _ _ (by omega))
  have F9 := hf82.2.2 _ _ (by decide) (F9.keep (show _ = _ from (up_n _ _ (by omega))))
  have F10 := hf82.2.2 _ _ (by decide) (F10.keep (show _ = _ from (up_n _ _ (by omega))))
  have F2 := hf82.2.2 _ _ (by decide) (F2.keep (show _ = _ from (up_n _ _ (by omega))))
  have F3 := hf82.2.2 _ _ (by decide) (F3.keep (show _ = _ from (up_n _ _ (by omega))))
  have F4 := hf82.2.2 _ _ (by decide) (F4.keep (show _ = _ from (up_n _ _ (by omega))))
  have F5 := hf82.2.2 _ _ (by decide) (F5.keep (show _ = _ from (up_n _ _ (by omega))))
  have F6 := hf82.2.2 _ _ (by decide) (F6.keep (show _ = _ from (up_n _ _ (by omega))))
  have F7 := hf82.2.2 _ _ (by decide) (F7.keep (show _ = _ from (up_n _ _ (by omega))))
  have F8 := hf82.2.2 _ _ (by decide) (F8.keep (show _ = _ from (up_n _ _ (by omega))))
  have F11 := hf82.2.2 _ _ (by decide) (F11.keep (show _ = _ from (up_n _ _ (by omega))))
  have F12 := hf82.2.1
  have g361 : hp82 361 = ar 0 9 (fun _ => 0) := (hf82.1 _ (by omega)).trans (up_s _ _ _)
  refine x_aload_n (pc := 85) dX7_init_85 rfl ?_
  refine x_bipush (pc := 86) dX7_init_86 (by decide) ?_
  refine x_iconst (pc := 88) dX7_init_88 ?_
  refine x_multi (pc := 89) (rc := 219) (rs := 2301) (kk := 0) (ty := .int) (n := 33) (m := 4) dX7_init_89 (by decide) rfl rfl strI2 rfl rfl rfl (by decide) (by rw [← strII]; exact nX7_25) (by simp [AOs]) ac_int (by decide) (by decide) (by have : (33 : Int).toNat = 33 := rfl; omega) ?_
  rw [show 362 + 1 + (33 : Int).toNat = 396 from rfl]
  refine x_pFv (pc := 93) dX7_init_93 pX7_39 rfl (fit_arr _ _) ((show isob hp82 92 7 from F9.ob).elim fun fs hfs => ⟨fs, (gr_old (by omega)).trans hfs⟩) (by omega) (fun hp93 hf93 => ?_)
  have c362 : ∀ x, x < 362 → x ≠ 92 → hp93 x = hp82 x := fun x h1 h2 => (hf93.1 x h2).trans (gr_old (by omega))
  have F9 := hf93.2.2 _ _ (by decide) (F9.keep (show _ = _ from (gr_old (by omega))))
  have F10 := hf93.2.2 _ _ (by decide) (F10.keep (show _ = _ from (gr_old (by omega))))
  have F2 := hf93.2.2 _ _ (by decide) (F2.keep (show _ = _ from (gr_old (by omega))))
  have F3 := hf93.2.2 _ _ (by decide) (F3.keep (show _ = _ from (gr_old (by omega))))
  have F4 := hf93.2.2 _ _ (by decide) (F4.keep (show _ = _ from (gr_old (by omega))))
  have F5 := hf93.2.2 _ _ (by decide) (F5.keep (show _ = _ from (gr_old (by omega))))
  have F6 := hf93.2.2 _ _ (by decide) (F6.keep (show _ = _ from (gr_old (by omega))))
  have F7 := hf93.2.2 _ _ (by decide) (F7.keep (show _ = _ from (gr_old (by omega))))
  have F8 := hf93.2.2 _ _ (by decide) (F8.keep (show _ = _ from (gr_old (by omega))))
  have F11 := hf93.2.2 _ _ (by decide) (F11.keep (show _ = _ from (gr_old (by omega))))
  have F12 := hf93.2.2 _ _ (by decide) (F12.keep (show _ = _ from (gr_old (by omega))))
  have F13 := hf93.2.1
  have g362 : hp93 362 = rr 5 33 (fun i => if i < 33 then some (362 + 1 + i) else none) := (hf93.1 _ (by omega)).trans (by rw [grid, if_pos rfl]; rfl)
  have r362 : ∀ i, i < 33 → hp93 (362 + 1 + i) = ar 0 4 (fun _ => 0) := fun i hi => (hf93.1 _ (by omega)).trans (by
    rw [grid, if_neg (by omega), if_pos ⟨by omega, by have : (33 : Int).toNat = 33 := rfl; omega⟩]
    rfl)
  refine x_aload_n (pc := 96) dX7_init_96 rfl ?_
  refine x_iconst (pc := 97) dX7_init_97 ?_
  refine x_newarr (pc := 98) (rc := 218) (rs := 2297) (kk := 0) (at0 := .int) (n := 4) dX7_init_98 rfl (by decide) rfl (by decide) ac_int (by decide) (by omega) ?_
  refine x_pFv (pc := 100) dX7_init_100 pX7_42 rfl (fit_arr _ _) ((show isob hp93 92 7 from F9.ob).elim fun fs hfs => ⟨fs, (up_n _ _ (by omega)).trans hfs⟩) (by omega) (fun hp100 hf100 => ?_)
  have c396 : ∀ x, x < 396 → x ≠ 92 → hp100 x = hp93 x := fun x h1 h2 => (hf100.1 x h2).trans (up_n _ _ (by omega))
  have F9 := hf100.2.2 _ _ (by decide) (F9.keep (show _ = _ from (up_n _ _ (by omega))))
  have F10 := hf100.2.2 _ _ (by decide) (F10.keep (show _ = _ from (up_n _ _ (by omega))))
  have F2 := hf100.2.2 _ _ (by decide) (F2.keep (show _ = _ from (up_n _ _ (by omega))))
  have F3 := hf100.2.2 _ _ (by decide) (F3.keep (show _ = _ from (up_n _ _ (by omega))))
  have F4 := hf100.2.2 _ _ (by decide) (F4.keep (show _ = _ from (up_n _ _ (by omega))))
  have F5 := hf100.2.2 _ _ (by decide) (F5.keep (show _ = _ from (up_n _ _ (by omega))))
  have F6 := hf100.2.2 _ _ (by decide) (F6.keep (show _ = _ from (up_n _ _ (by omega))))
  have F7 := hf100.2.2 _ _ (by decide) (F7.keep (show _ = _ from (up_n _ _ (by omega))))
  have F8 := hf100.2.2 _ _ (by decide) (F8.keep (show _ = _ from (up_n _ _ (by omega))))
  have F11 := hf100.2.2 _ _ (by decide) (F11.keep (show _ = _ from (up_n _ _ (by omega))))
  have F12 := hf100.2.2 _ _ (by decide) (F12.keep (show _ = _ from (up_n _ _ (by omega))))
  have F13 := hf100.2.2 _ _ (by decide) (F13.keep (show _ = _ from (up_n _ _ (by omega))))
  have F14 := hf100.2.1
  have g396 : hp100 396 = ar 0 4 (fun _ => 0) := (hf100.1 _ (by omega)).trans (up_s _ _ _)
  refine x_aload_n (pc := 103) dX7_init_103 rfl ?_
  refine x_iconst (pc := 104) dX7_init_104 ?_
  refine x_newarr (pc := 105) (rc := 217) (rs := 2293) (kk := 0) (at0 := .int) (n := 4) dX7_init_105 rfl (by decide) rfl (by decide) ac_int (by decide) (by omega) ?_
  refine x_pFv (pc := 107) dX7_init_107 pX7_45 rfl (fit_arr _ _) ((show isob hp100 92 7 from F9.ob).elim fun fs hfs => ⟨fs, (up_n _ _ (by omega)).trans hfs⟩) (by omega) (fun hp107 hf107 => ?_)
  have c397 : ∀ x, x < 397 → x ≠ 92 → hp107 x = hp100 x := fun x h1 h2 => (hf107.1 x h2).trans (up_n _ _ (by omega))
  have F9 := hf107.2.2 _ _ (by decide) (F9.keep (show _ = _ from (up_n _ _ (by omega))))
  have F10 := hf107.2.2 _ _ (by decide) (F10.keep (show _ = _ from (up_n _ _ (by omega))))
  have F2 := hf107.2.2 _ _ (by decide) (F2.keep (show _ = _ from (up_n _ _ (by omega))))
  have F3 := hf107.2.2 _ _ (by decide) (F3.keep (show _ = _ from (up_n _ _ (by omega))))
  have F4 := hf107.2.2 _ _ (by decide) (F4.keep (show _ = _ from (up_n _ _ (by omega))))
  have F5 := hf107.2.2 _ _ (by decide) (F5.keep (show _ = _ from (up_n _ _ (by omega))))
  have F6 := hf107.2.2 _ _ (by decide) (F6.keep (show _ = _ from (up_n _ _ (by omega))))
  have F7 := hf107.2.2 _ _ (by decide) (F7.keep (show _ = _ from (up_n _ _ (by omega))))
  have F8 := hf107.2.2 _ _ (by decide) (F8.keep (show _ = _ from (up_n _ _ (by omega))))
  have F11 := hf107.2.2 _ _ (by decide) (F11.keep (show _ = _ from (up_n _ _ (by omega))))
  have F12 := hf107.2.2 _ _ (by decide) (F12.keep (show _ = _ from (up_n _ _ (by omega))))
  have F13 := hf107.2.2 _ _ (by decide) (F13.keep (show _ = _ from (up_n _ _ (by omega))))
  have F14 := hf107.2.2 _ _ (by decide) (F14.keep (show _ = _ from (up_n _ _ (by omega))))
  have F15 := hf107.2.1
  have g397 : hp107 397 = ar 0 4 (fun _ => 0) := (hf107.1 _ (by omega)).trans (up_s _ _ _)
  refine x_aload_n (pc := 110) dX7_init_110 rfl ?_
  refine x_bipush (pc := 111) dX7_init_111 (by decide) ?_
  refine x_newarr (pc := 113) (rc := 216) (rs := 2229) (kk := 0) (at0 := .int) (n := 64) dX7_init_113 rfl (by decide) rfl (by decide) ac_int (by decide) (by omega) ?_
  refine x_pFv (pc := 115) dX7_init_115 pX7_48 rfl (fit_arr _ _) ((show isob hp107 92 7 from F9.ob).elim fun fs hfs => ⟨fs, (up_n _ _ (by omega)).trans hfs⟩) (by omega) (fun hp115 hf115 => ?_)
  have c398 : ∀ x, x < 398 → x ≠ 92 → hp115 x = hp107 x := fun x h1 h2 => (hf115.1 x h2).trans (up_n _ _ (by omega))
  have F9 := hf115.2.2 _ _ (by decide) (F9.keep (show _ = _ from (up_n _ _ (by omega))))
  have F10 := hf115.2.2 _ _ (by decide) (F10.keep (show _ = _ from (up_n _ _ (by omega))))
  have F2 := hf115.2.2 _ _ (by decide) (F2.keep (show _ = _ from (up_n _ _ (by omega))))
  have F3 := hf115.2.2 _ _ (by decide) (F3.keep (show _ = _ from (up_n _ _ (by omega))))
  have F4 := hf115.2.2 _ _ (by decide) (F4.keep (show _ = _ from (up_n _ _ (by omega))))
  have F5 := hf115.2.2 _ _ (by decide) (F5.keep (show _ = _ from (up_n _ _ (by omega))))
  have F6 := hf115.2.2 _ _ (by decide) (F6.keep (show _ = _ from (up_n _ _ (by omega))))
  have F7 := hf115.2.2 _ _ (by decide) (F7.keep (show _ = _ from (up_n _ _ (by omega))))
  have F8 := hf115.2.2 _ _ (by decide) (F8.keep (show _ = _ from (up_n _ _ (by omega))))
  have F11 := hf115.2.2 _ _ (by decide) (F11.keep (show _ = _ from (up_n _ _ (by omega))))
  have F12 := hf115.2.2 _ _ (by decide) (F12.keep (show _ = _ from (up_n _ _ (by omega))))
  have F13 := hf115.2.2 _ _ (by decide) (F13.keep (show _ = _ from (up_n _ _ (by omega))))
  have F14 := hf115.2.2 _ _ (by decide) (F14.keep (show _ = _ from (up_n _ _ (by omega))))
  have F15 := hf115.2.2 _ _ (by decide) (F15.keep (show _ = _ from (up_n _ _ (by omega))))
  have F16 := hf115.2.1
  have g398 : hp115 398 = ar 0 64 (fun _ => 0) := (hf115.1 _ (by omega)).trans (up_s _ _ _)
  refine x_aload_n (pc := 118) dX7_init_118 rfl ?_
  refine x_bipush (pc := 119) dX7_init_119 (by decide) ?_
  refine x_newarr (pc := 121) (rc := 215) (rs := 2165) (kk := 0) (at0 := .int) (n := 64) dX7_init_121 rfl (by decide) rfl (by decide) ac_int (by decide) (by omega) ?_
  refine x_pFv (pc := 123) dX7_init_123 pX7_51 rfl (fit_arr _ _) ((show isob hp115 92 7 from F9.ob).elim fun fs hfs => ⟨fs, (up_n _ _ (by omega)).trans hfs⟩) (by omega) (fun hp123 hf123 => ?_)
  have c399 : ∀ x, x < 399 → x ≠ 92 → hp123 x = hp115 x := fun x h1 h2 => (hf123.1 x h2).trans (up_n _ _ (by omega))
  have F9 := hf123.2.2 _ _ (by decide) (F9.keep (show _ = _ from (up_n _ _ (by omega))))
  have F10 := hf123.2.2 _ _ (by decide) (F10.keep (show _ = _ from (up_n _ _ (by omega))))
  have F2 := hf123.2.2 _ _ (by decide) (F2.keep (show _ = _ from (up_n _ _ (by omega))))
  have F3 := hf123.2.2 _ _ (by decide) (F3.keep (show _ = _ from (up_n _ _ (by omega))))
  have F4 := hf123.2.2 _ _ (by decide) (F4.keep (show _ = _ from (up_n _ _ (by omega))))
  have F5 := hf123.2.2 _ _ (by decide) (F5.keep (show _ = _ from (up_n _ _ (by omega))))
  have F6 := hf123.2.2 _ _ (by decide) (F6.keep (show _ = _ from (up_n _ _ (by omega))))
  have F7 := hf123.2.2 _ _ (by decide) (F7.keep (show _ = _ from (up_n _ _ (by omega))))
  have F8 := hf123.2.2 _ _ (by decide) (F8.keep (show _ = _ from (up_n _ _ (by omega))))
  have F11 := hf123.2.2 _ _ (by decide) (F11.keep (show _ = _ from (up_n _ _ (by omega))))
  have F12 := hf123.2.2 _ _ (by decide) (F12.keep (show _ = _ from (up_n _ _ (by omega))))
  have F13 := hf123.2.2 _ _ (by decide) (F13.keep (show _ = _ from (up_n _ _ (by omega))))
  have F14 := hf123.2.2 _ _ (by decide) (F14.keep (show _ = _ from (up_n _ _ (by omega))))
  have F15 := hf123.2.2 _ _ (by decide) (F15.keep (show _ = _ from (up_n _ _ (by omega))))
  have F16 := hf123.2.2 _ _ (by decide) (F16.keep (show _ = _ from (up_n _ _ (by omega))))
  have F17 := hf123.2.1
  have g399 : hp123 399 = ar 0 64 (fun _ => 0) := (hf123.1 _ (by omega)).trans (up_s _ _ _)
  refine x_aload_n (pc := 126) dX7_init_126 rfl ?_
  refine x_iconst (pc := 127) dX7_init_127 ?_
  refine x_newarr (pc := 128) (rc := 214) (rs := 2163) (kk := 0) (at0 := .int) (n := 2) dX7_init_128 rfl (by decide) rfl (by decide) ac_int (by decide) (by omega) ?_
  refine x_pFv (pc := 130) dX7_init_130 pX7_54 rfl (fit_arr _ _) ((show isob hp123 92 7 from F9.ob).elim fun fs hfs => ⟨fs, (up_n _ _ (by omega)).trans hfs⟩) (by omega) (fun hp130 hf130 => ?_)
  have c400 : ∀ x, x < 400 → x ≠ 92 → hp130 x = hp123 x := fun x h1 h2 => (hf130.1 x h2).trans (up_n _ _ (by omega))
  have F9 := hf130.2.2 _ _ (by decide) (F9.keep (show _ = _ from (up_n _ _ (by omega))))
  have F10 := hf130.2.2 _ _ (by decide) (F10.keep (show _ = _ from (up_n _ _ (by omega))))
  have F2 := hf130.2.2 _ _ (by decide) (F2.keep (show _ = _ from (up_n _ _ (by omega))))
  have F3 := hf130.2.2 _ _ (by decide) (F3.keep (show _ = _ from (up_n _ _ (by omega))))
  have F4 := hf130.2.2 _ _ (by decide) (F4.keep (show _ = _ from (up_n _ _ (by omega))))
  have F5 := hf130.2.2 _ _ (by decide) (F5.keep (show _ = _ from (up_n _ _ (by omega))))
  have F6 := hf130.2.2 _ _ (by decide) (F6.keep (show _ = _ from (up_n _ _ (by omega))))
  have F7 := hf130.2.2 _ _ (by decide) (F7.keep (show _ = _ from (up_n _ _ (by omega))))
  have F8 := hf130.2.2 _ _ (by decide) (F8.keep (show _ = _ from (up_n _ _ (by omega))))
  have F11 := hf130.2.2 _ _ (by decide) (F11.keep (show _ = _ from (up_n _ _ (by omega))))
  have F12 := hf130.2.2 _ _ (by decide) (F12.keep (show _ = _ from (up_n _ _ (by omega))))
  have F13 := hf130.2.2 _ _ (by decide) (F13.keep (show _ = _ from (up_n _ _ (by omega))))
  have F14 := hf130.2.2 _ _ (by decide) (F14.keep (show _ = _ from (up_n _ _ (by omega))))
  have F15 := hf130.2.2 _ _ (by decide) (F15.keep (show _ = _ from (up_n _ _ (by omega))))
  have F16 := hf130.2.2 _ _ (by decide) (F16.keep (show _ = _ from (up_n _ _ (by omega))))
  have F17 := hf130.2.2 _ _ (by decide) (F17.keep (show _ = _ from (up_n _ _ (by omega))))
  have F18 := hf130.2.1
  have g400 : hp130 400 = ar 0 2 (fun _ => 0) := (hf130.1 _ (by omega)).trans (up_s _ _ _)
  refine x_aload_n (pc := 133) dX7_init_133 rfl ?_
  refine x_bipush (pc := 134) dX7_init_134 (by decide) ?_
  refine x_newarr (pc := 136) (rc := 213) (rs := 2131) (kk := 0) (at0 := .int) (n := 32) dX7_init_136 rfl (by decide) rfl (by decide) ac_int (by decide) (by omega) ?_
  refine x_pFv (pc := 138) dX7_init_138 pX7_57 rfl (fit_arr _ _) ((show isob hp130 92 7 from F9.ob).elim fun fs hfs => ⟨fs, (up_n _ _ (by omega)).trans hfs⟩) (by omega) (fun hp138 hf138 => ?_)
  have c401 : ∀ x, x < 401 → x ≠ 92 → hp138 x = hp130 x := fun x h1 h2 => (hf138.1 x h2).trans (up_n _ _ (by omega))
  have F9 := hf138.2.2 _ _ (by decide) (F9.keep (show _ = _ from (up_n _ _ (by omega))))
  have F10 := hf138.2.2 _ _ (by decide) (F10.keep (show _ = _ from (up_n _ _ (by omega))))
  have F2 := hf138.2.2 _ _ (by decide) (F2.keep (show _ = _ from (up_n _ _ (by omega))))
  have F3 := hf138.2.2 _ _ (by decide) (F3.keep (show _ = _ from (up_n _ _ (by omega))))
  have F4 := hf138.2.2 _ _ (by decide) (F4.keep (show _ = _ from (up_n _ _ (by omega))))
  have F5 := hf138.2.2 _ _ (by decide) (F5.keep (show _ = _ from (up_n _ _ (by omega))))
  have F6 := hf138.2.2 _ _ (by decide) (F6.keep (show _ = _ from (up_n _ _ (by omega))))
  have F7 := hf138.2.2 _ _ (by decide) (F7.keep (show _ = _ from (up_n _ _ (by omega))))
  have F8 := hf138.2.2 _ _ (by decide) (F8.keep (show _ = _ from (up_n _ _ (by omega))))
  have F11 := hf138.2.2 _ _ (by decide) (F11.keep (show _ = _ from (up_n _ _ (by omega))))
  have F12 := hf138.2.2 _ _ (by decide) (F12.keep (show _ = _ from (up_n _ _ (by omega))))
  have F13 := hf138.2.2 _ _ (by decide) (F13.keep (show _ = _ from (up_n _ _ (by omega))))
  have F14 := hf138.2.2 _ _ (by decide) (F14.keep (show _ = _ from (up_n _ _ (by omega))))
  have F15 := hf138.2.2 _ _ (by decide) (F15.keep (show _ = _ from (up_n _ _ (by omega))))
  have F16 := hf138.2.2 _ _ (by decide) (F16.keep (show _ = _ from (up_n _ _ (by omega))))
  have F17 := hf138.2.2 _ _ (by decide) (F17.keep (show _ = _ from (up_n _ _ (by omega))))
  have F18 := hf138.2.2 _ _ (by decide) (F18.keep (show _ = _ from (up_n _ _ (by omega))))
  have F19 := hf138.2.1
  have g401 : hp138 401 = ar 0 32 (fun _ => 0) := (hf138.1 _ (by omega)).trans (up_s _ _ _)
  refine x_aload_n (pc := 141) dX7_init_141 rfl ?_
  refine x_bipush (pc := 142) dX7_init_142 (by decide) ?_
  refine x_newarr (pc := 144) (rc := 212) (rs := 2099) (kk := 3) (at0 := .boolean) (n := 32) dX7_init_144 rfl (by decide) rfl (by decide) ac_boolean (by decide) (by omega) ?_
  refine x_pFv (pc := 146) dX7_init_146 pX7_60 rfl (fit_arr _ _) ((show isob hp138 92 7 from F9.ob).elim fun fs hfs => ⟨fs, (up_n _ _ (by omega)).trans hfs⟩) (by omega) (fun hp146 hf146 => ?_)
  have c402 : ∀ x, x < 402 → x ≠ 92 → hp146 x = hp138 x := fun x h1 h2 => (hf146.1 x h2).trans (up_n _ _ (by omega))
  have F9 := hf146.2.2 _ _ (by decide) (F9.keep (show _ = _ from (up_n _ _ (by omega))))
  have F10 := hf146.2.2 _ _ (by decide) (F10.keep (show _ = _ from (up_n _ _ (by omega))))
  have F2 := hf146.2.2 _ _ (by decide) (F2.keep (show _ = _ from (up_n _ _ (by omega))))
  have F3 := hf146.2.2 _ _ (by decide) (F3.keep (show _ = _ from (up_n _ _ (by omega))))
  have F4 := hf146.2.2 _ _ (by decide) (F4.keep (show _ = _ from (up_n _ _ (by omega))))
  have F5 := hf146.2.2 _ _ (by decide) (F5.keep (show _ = _ from (up_n _ _ (by omega))))
  have F6 := hf146.2.2 _ _ (by decide) (F6.keep (show _ = _ from (up_n _ _ (by omega))))
  have F7 := hf146.2.2 _ _ (by decide) (F7.keep (show _ = _ from (up_n _ _ (by omega))))
  have F8 := hf146.2.2 _ _ (by decide) (F8.keep (show _ = _ from (up_n _ _ (by omega))))
  have F11 := hf146.2.2 _ _ (by decide) (F11.keep (show _ = _ from (up_n _ _ (by omega))))
  have F12 := hf146.2.2 _ _ (by decide) (F12.keep (show _ = _ from (up_n _ _ (by omega))))
  have F13 := hf146.2.2 _ _ (by decide) (F13.keep (show _ = _ from (up_n _ _ (by omega))))
  have F14 := hf146.2.2 _ _ (by decide) (F14.keep (show _ = _ from (up_n _ _ (by omega))))
  have F15 := hf146.2.2 _ _ (by decide) (F15.keep (show _ = _ from (up_n _ _ (by omega))))
  have F16 := hf146.2.2 _ _ (by decide) (F16.keep (show _ = _ from (up_n _ _ (by omega))))
  have F17 := hf146.2.2 _ _ (by decide) (F17.keep (show _ = _ from (up_n _ _ (by omega))))
  have F18 := hf146.2.2 _ _ (by decide) (F18.keep (show _ = _ from (up_n _ _ (by omega))))
  have F19 := hf146.2.2 _ _ (by decide) (F19.keep (show _ = _ from (up_n _ _ (by omega))))
  have F20 := hf146.2.1
  have g402 : hp146 402 = ar 3 32 (fun _ => 0) := (hf146.1 _ (by omega)).trans (up_s _ _ _)
  refine x_aload_n (pc := 149) dX7_init_149 rfl ?_
  refine x_bipush (pc := 150) dX7_init_150 (by decide) ?_
  refine x_bipush (pc := 152) dX7_init_152 (by decide) ?_
  refine x_multi (pc := 154) (rc := 202) (rs := 2009) (kk := 1) (ty := .long) (n := 9) (m := 9) dX7_init_154 (by decide) rfl rfl strJ2 rfl rfl rfl (by decide) (by rw [← strJJ]; exact nX7_64) (by simp [AOs]) ac_long (by decide) (by decide) (by have : (9 : Int).toNat = 9 := rfl; omega) ?_
  rw [show 403 + 1 + (9 : Int).toNat = 413 from rfl]
  refine x_pFv (pc := 158) dX7_init_158 pX7_66 rfl (fit_arr _ _) ((show isob hp146 92 7 from F9.ob).elim fun fs hfs => ⟨fs, (gr_old (by omega)).trans hfs⟩) (by omega) (fun hp158 hf158 => ?_)
  have c403 : ∀ x, x < 403 → x ≠ 92 → hp158 x = hp146 x := fun x h1 h2 => (hf158.1 x h2).trans (gr_old (by omega))
  have F9 := hf158.2.2 _ _ (by decide) (F9.keep (show _ = _ from (gr_old (by omega))))
  have F10 := hf158.2.2 _ _ (by decide) (F10.keep (show _ = _ from (gr_old (by omega))))
  have F2 := hf158.2.2 _ _ (by decide) (F2.keep (show _ = _ from (gr_old (by omega))))
  have F3 := hf158.2.2 _ _ (by decide) (F3.keep (show _ = _ from (gr_old (by omega))))
  have F4 := hf158.2.2 _ _ (by decide) (F4.keep (show _ = _ from (gr_old (by omega))))
  have F5 := hf158.2.2 _ _ (by decide) (F5.keep (show _ = _ from (gr_old (by omega))))
  have F6 := hf158.2.2 _ _ (by decide) (F6.keep (show _ = _ from (gr_old (by omega))))
  have F7 := hf158.2.2 _ _ (by decide) (F7.keep (show _ = _ from (gr_old (by omega))))
  have F8 := hf158.2.2 _ _ (by decide) (F8.keep (show _ = _ from (gr_old (by omega))))
  have F11 := hf158.2.2 _ _ (by decide) (F11.keep (show _ = _ from (gr_old (by omega))))
  have F12 := hf158.2.2 _ _ (by decide) (F12.keep (show _ = _ from (gr_old (by omega))))
  have F13 := hf158.2.2 _ _ (by decide) (F13.keep (show _ = _ from (gr_old (by omega))))
  have F14 := hf158.2.2 _ _ (by decide) (F14.keep (show _ = _ from (gr_old (by omega))))
  have F15 := hf158.2.2 _ _ (by decide) (F15.keep (show _ = _ from (gr_old (by omega))))
  have F16 := hf158.2.2 _ _ (by decide) (F16.keep (show _ = _ from (gr_old (by omega))))
  have F17 := hf158.2.2 _ _ (by decide) (F17.keep (show _ = _ from (gr_old (by omega))))
  have F18 := hf158.2.2 _ _ (by decide) (F18.keep (show _ = _ from (gr_old (by omega))))
  have F19 := hf158.2.2 _ _ (by decide) (F19.keep (show _ = _ from (gr_old (by omega))))
  have F20 := hf158.2.2 _ _ (by decide) (F20.keep (show _ = _ from (gr_old (by omega))))
  have F21 := hf158.2.1
  have g403 : hp158 403 = rr 6 9 (fun i => if i < 9 then some (403 + 1 + i) else none) := (hf158.1 _ (by omega)).trans (by rw [grid, if_pos rfl]; rfl)
  have r403 : ∀ i, i < 9 → hp158 (403 + 1 + i) = ar 1 9 (fun _ => 0) := fun i hi => (hf158.1 _ (by omega)).trans (by
    rw [grid, if_neg (by omega), if_pos ⟨by omega, by have : (9 : Int).toNat = 9 := rfl; omega⟩]
    rfl)
  refine x_aload_n (pc := 161) dX7_init_161 rfl ?_
  refine x_bipush (pc := 162) dX7_init_162 (by decide) ?_
  refine x_newarr (pc := 164) (rc := 201) (rs := 2000) (kk := 0) (at0 := .int) (n := 9) dX7_init_164 rfl (by decide) rfl (by decide) ac_int (by decide) (by omega) ?_
  refine x_pFv (pc := 166) dX7_init_166 pX7_69 rfl (fit_arr _ _) ((show isob hp158 92 7 from F9.ob).elim fun fs hfs => ⟨fs, (up_n _ _ (by omega)).trans hfs⟩) (by omega) (fun hp166 hf166 => ?_)
  have c413 : ∀ x, x < 413 → x ≠ 92 → hp166 x = hp158 x := fun x h1 h2 => (hf166.1 x h2).trans (up_n _ _ (by omega))
  have F9 := hf166.2.2 _ _ (by decide) (F9.keep (show _ = _ from (up_n _ _ (by omega))))
  have F10 := hf166.2.2 _ _ (by decide) (F10.keep (show _ = _ from (up_n _ _ (by omega))))
  have F2 := hf166.2.2 _ _ (by decide) (F2.keep (show _ = _ from (up_n _ _ (by omega))))
  have F3 := hf166.2.2 _ _ (by decide) (F3.keep (show _ = _ from (up_n _ _ (by omega))))
  have F4 := hf166.2.2 _ _ (by decide) (F4.keep (show _ = _ from (up_n _ _ (by omega))))
  have F5 := hf166.2.2 _ _ (by decide) (F5.keep (show _ = _ from (up_n _ _ (by omega))))
  have F6 := hf166.2.2 _ _ (by decide) (F6.keep (show _ = _ from (up_n _ _ (by omega))))
  have F7 := hf166.2.2 _ _ (by decide) (F7.keep (show _ = _ from (up_n _ _ (by omega))))
  have F8 := hf166.2.2 _ _ (by decide) (F8.keep (show _ = _ from (up_n _ _ (by omega))))
  have F11 := hf166.2.2 _ _ (by decide) (F11.keep (show _ = _ from (up_n _ _ (by omega))))
  have F12 := hf166.2.2 _ _ (by decide) (F12.keep (show _ = _ from (up_n _ _ (by omega))))
  have F13 := hf166.2.2 _ _ (by decide) (F13.keep (show _ = _ from (up_n _ _ (by omega))))
  have F14 := hf166.2.2 _ _ (by decide) (F14.keep (show _ = _ from (up_n _ _ (by omega))))
  have F15 := hf166.2.2 _ _ (by decide) (F15.keep (show _ = _ from (up_n _ _ (by omega))))
  have F16 := hf166.2.2 _ _ (by decide) (F16.keep (show _ = _ from (up_n _ _ (by omega))))
  have F17 := hf166.2.2 _ _ (by decide) (F17.keep (show _ = _ from (up_n _ _ (by omega))))
  have F18 := hf166.2.2 _ _ (by decide) (F18.keep (show _ = _ from (up_n _ _ (by omega))))
  have F19 := hf166.2.2 _ _ (by decide) (F19.keep (show _ = _ from (up_n _ _ (by omega))))
  have F20 := hf166.2.2 _ _ (by decide) (F20.keep (show _ = _ from (up_n _ _ (by omega))))
  have F21 := hf166.2.2 _ _ (by decide) (F21.keep (show _ = _ from (up_n _ _ (by omega))))
  have F22 := hf166.2.1
  have g413 : hp166 413 = ar 0 9 (fun _ => 0) := (hf166.1 _ (by omega)).trans (up_s _ _ _)
  refine x_aload_n (pc := 169) dX7_init_169 rfl ?_
  refine x_sipush (pc := 170) dX7_init_170 (by decide) ?_
  refine x_bipush (pc := 173) dX7_init_173 (by decide) ?_
  refine x_multi (pc := 175) (rc := 0) (rs := 0) (kk := 2) (ty := .byte) (n := 200) (m := 9) dX7_init_175 (by decide) rfl rfl strB2 rfl rfl rfl (by decide) (by rw [← strBB]; exact nX7_72) (by simp [AOs]) ac_byte (by decide) (by decide) (by have : (200 : Int).toNat = 200 := rfl; omega) ?_
  rw [show 414 + 1 + (200 : Int).toNat = 615 from rfl]
  refine x_pFv (pc := 179) dX7_init_179 pX7_74 rfl (fit_arr _ _) ((show isob hp166 92 7 from F9.ob).elim fun fs hfs => ⟨fs, (gr_old (by omega)).trans hfs⟩) (by omega) (fun hp179 hf179 => ?_)
  have c414 : ∀ x, x < 414 → x ≠ 92 → hp179 x = hp166 x := fun x h1 h2 => (hf179.1 x h2).trans (gr_old (by omega))
  have F9 := hf179.2.2 _ _ (by decide) (F9.keep (show _ = _ from (gr_old (by omega))))
  have F10 := hf179.2.2 _ _ (by decide) (F10.keep (show _ = _ from (gr_old (by omega))))
  have F2 := hf179.2.2 _ _ (by decide) (F2.keep (show _ = _ from (gr_old (by omega))))
  have F3 := hf179.2.2 _ _ (by decide) (F3.keep (show _ = _ from (gr_old (by omega))))
  have F4 := hf179.2.2 _ _ (by decide) (F4.keep (show _ = _ from (gr_old (by omega))))
  have F5 := hf179.2.2 _ _ (by decide) (F5.keep (show _ = _ from (gr_old (by omega))))
  have F6 := hf179.2.2 _ _ (by decide) (F6.keep (show _ = _ from (gr_old (by omega))))
  have F7 := hf179.2.2 _ _ (by decide) (F7.keep (show _ = _ from (gr_old (by omega))))
  have F8 := hf179.2.2 _ _ (by decide) (F8.keep (show _ = _ from (gr_old (by omega))))
  have F11 := hf179.2.2 _ _ (by decide) (F11.keep (show _ = _ from (gr_old (by omega))))
  have F12 := hf179.2.2 _ _ (by decide) (F12.keep (show _ = _ from (gr_old (by omega))))
  have F13 := hf179.2.2 _ _ (by decide) (F13.keep (show _ = _ from (gr_old (by omega))))
  have F14 := hf179.2.2 _ _ (by decide) (F14.keep (show _ = _ from (gr_old (by omega))))
  have F15 := hf179.2.2 _ _ (by decide) (F15.keep (show _ = _ from (gr_old (by omega))))
  have F16 := hf179.2.2 _ _ (by decide) (F16.keep (show _ = _ from (gr_old (by omega))))
  have F17 := hf179.2.2 _ _ (by decide) (F17.keep (show _ = _ from (gr_old (by omega))))
  have F18 := hf179.2.2 _ _ (by decide) (F18.keep (show _ = _ from (gr_old (by omega))))
  have F19 := hf179.2.2 _ _ (by decide) (F19.keep (show _ = _ from (gr_old (by omega))))
  have F20 := hf179.2.2 _ _ (by decide) (F20.keep (show _ = _ from (gr_old (by omega))))
  have F21 := hf179.2.2 _ _ (by decide) (F21.keep (show _ = _ from (gr_old (by omega))))
  have F22 := hf179.2.2 _ _ (by decide) (F22.keep (show _ = _ from (gr_old (by omega))))
  have F23 := hf179.2.1
  have g414 : hp179 414 = rr 7 200 (fun i => if i < 200 then some (414 + 1 + i) else none) := (hf179.1 _ (by omega)).trans (by rw [grid, if_pos rfl]; rfl)
  have r414 : ∀ i, i < 200 → hp179 (414 + 1 + i) = ar 2 9 (fun _ => 0) := fun i hi => (hf179.1 _ (by omega)).trans (by
    rw [grid, if_neg (by omega), if_pos ⟨by omega, by have : (200 : Int).toNat = 200 := rfl; omega⟩]
    rfl)
  refine x_iconst (pc := 182) dX7_init_182 ?_
  refine x_istore_n (pc := 183) dX7_init_183 (by decide) rfl ?_
  show Ex _ _ _ _ _ _ [_, _, _, _, _] _ _ _ _
  refine x_iconst (pc := 184) dX7_init_184 ?_
  refine x_istore (pc := 185) dX7_init_185 (by decide) rfl ?_
  show Ex _ _ _ _ _ _ [_, _, _, _, _] _ _ _ _
  have D19 : ∀ x, x ≠ 92 → hp179 x = hp179 x := fun x _ => rfl
  have D18 : ∀ x, x < 414 → x ≠ 92 → hp179 x = hp166 x := fun x h1 h2 => (D19 x h2).trans (c414 x (by omega) h2)
  have D17 : ∀ x, x < 413 → x ≠ 92 → hp179 x = hp158 x := fun x h1 h2 => (D18 x (by omega) h2).trans (c413 x (by omega) h2)
  have D16 : ∀ x, x < 403 → x ≠ 92 → hp179 x = hp146 x := fun x h1 h2 => (D17 x (by omega) h2).trans (c403 x (by omega) h2)
  have D15 : ∀ x, x < 402 → x ≠ 92 → hp179 x = hp138 x := fun x h1 h2 => (D16 x (by omega) h2).trans (c402 x (by omega) h2)
  have D14 : ∀ x, x < 401 → x ≠ 92 → hp179 x = hp130 x := fun x h1 h2 => (D15 x (by omega) h2).trans (c401 x (by omega) h2)
  have D13 : ∀ x, x < 400 → x ≠ 92 → hp179 x = hp123 x := fun x h1 h2 => (D14 x (by omega) h2).trans (c400 x (by omega) h2)
  have D12 : ∀ x, x < 399 → x ≠ 92 → hp179 x = hp115 x := fun x h1 h2 => (D13 x (by omega) h2).trans (c399 x (by omega) h2)
  have D11 : ∀ x, x < 398 → x ≠ 92 → hp179 x = hp107 x := fun x h1 h2 => (D12 x (by omega) h2).trans (c398 x (by omega) h2)
  have D10 : ∀ x, x < 397 → x ≠ 92 → hp179 x = hp100 x := fun x h1 h2 => (D11 x (by omega) h2).trans (c397 x (by omega) h2)
  have D9 : ∀ x, x < 396 → x ≠ 92 → hp179 x = hp93 x := fun x h1 h2 => (D10 x (by omega) h2).trans (c396 x (by omega) h2)
  have D8 : ∀ x, x < 362 → x ≠ 92 → hp179 x = hp82 x := fun x h1 h2 => (D9 x (by omega) h2).trans (c362 x (by omega) h2)
  have D7 : ∀ x, x < 361 → x ≠ 92 → hp179 x = hp74 x := fun x h1 h2 => (D8 x (by omega) h2).trans (c361 x (by omega) h2)
  have D6 : ∀ x, x < 360 → x ≠ 92 → hp179 x = hp66 x := fun x h1 h2 => (D7 x (by omega) h2).trans (c360 x (by omega) h2)
  have D5 : ∀ x, x < 359 → x ≠ 92 → hp179 x = hp57 x := fun x h1 h2 => (D6 x (by omega) h2).trans (c359 x (by omega) h2)
  have D4 : ∀ x, x < 98 → x ≠ 92 → hp179 x = hp43 x := fun x h1 h2 => (D5 x (by omega) h2).trans (c98 x (by omega) h2)
  have D3 : ∀ x, x < 97 → x ≠ 92 → hp179 x = hp34 x := fun x h1 h2 => (D4 x (by omega) h2).trans (c97 x (by omega) h2)
  have D2 : ∀ x, x < 96 → x ≠ 92 → hp179 x = hp26 x := fun x h1 h2 => (D3 x (by omega) h2).trans (c96 x (by omega) h2)
  have D1 : ∀ x, x < 95 → x ≠ 92 → hp179 x = hp17 x := fun x h1 h2 => (D2 x (by omega) h2).trans (c95 x (by omega) h2)
  have D0 : ∀ x, x < 94 → x ≠ 92 → hp179 x = hp9 x := fun x h1 h2 => (D1 x (by omega) h2).trans (c94 x (by omega) h2)
  have g93 := (D0 93 (by omega) (by omega)).trans g93
  have g94 := (D1 94 (by omega) (by omega)).trans g94
  have g95 := (D2 95 (by omega) (by omega)).trans g95
  have g96 := (D3 96 (by omega) (by omega)).trans g96
  have g97 := (D4 97 (by omega) (by omega)).trans g97
  have g98 := (D5 98 (by omega) (by omega)).trans g98
  have r98 := fun i (hi : i < 260) => (D5 (98 + 1 + i) (by omega) (by omega)).trans (r98 i hi)
  have g359 := (D6 359 (by omega) (by omega)).trans g359
  have g360 := (D7 360 (by omega) (by omega)).trans g360
  have g361 := (D8 361 (by omega) (by omega)).trans g361
  have g362 := (D9 362 (by omega) (by omega)).trans g362
  have r362 := fun i (hi : i < 33) => (D9 (362 + 1 + i) (by omega) (by omega)).trans (r362 i hi)
  have g396 := (D10 396 (by omega) (by omega)).trans g396
  have g397 := (D11 397 (by omega) (by omega)).trans g397
  have g398 := (D12 398 (by omega) (by omega)).trans g398
  have g399 := (D13 399 (by omega) (by omega)).trans g399
  have g400 := (D14 400 (by omega) (by omega)).trans g400
  have g401 := (D15 401 (by omega) (by omega)).trans g401
  have g402 := (D16 402 (by omega) (by omega)).trans g402
  have g403 := (D17 403 (by omega) (by omega)).trans g403
  have r403 := fun i (hi : i < 9) => (D17 (403 + 1 + i) (by omega) (by omega)).trans (r403 i hi)
  have g413 := (D18 413 (by omega) (by omega)).trans g413
  have g414 := (D19 414 (by omega)).trans g414
  have r414 := fun i (hi : i < 200) => (D19 (414 + 1 + i) (by omega)).trans (r414 i hi)
  have E92 : ∀ x, x < 92 → hp179 x = hp x := fun x h => (D0 x (by omega) (by omega)).trans (c93 x (by omega) (by omega))
  refine Ex.glob (fun hgl => ?_)
  have hX := hgl 2 (by omega)
  rw [hG1] at hX
  exact k_mprime hX hG2 hx (k_mfin (d := d) hy ep eN (fun h q e => ⟨rfl, rfl, fun z hz => (e z (by omega)).trans (E92 z hz), q⟩) F9 F10 F2 F3 F4 F5 F6 F7 F8 F11 F12 F13 F14 F15 F16 F17 F18 F19 F20 F21 F22 F23 g93 g94 g95 g96 g97 g98 r98 g359 g360 g361 g362 r362 g396 g397 g398 g399 g400 g401 g402 g403 r403 g413 g414 r414) 0 (by omega)

abbrev inB (N t y : Nat) : Prop := (0 < t ∧ y / 16 = t - 1) ∨ (t + 1 < N ∧ y / 16 = t)
def clE (N t f q : Nat) (E1 : Nat → Int) : Nat → Int := fun y => if inB N t y ∧ (y % 4 < f ∨ (y % 4 = f ∧ y % 16 / 4 < q)) then 0 else E1 y
theorem clE_q {N t f q : Nat} {E1 : Nat → Int} (hf : f < 4) (hq : q < 4) {E : Nat → Int} (h : ∀ y, E y = if (0 < t ∧ y = (t - 1) * 16 + q * 4 + f) ∨ (t + 1 < N ∧ y = t * 16 + q * 4 + f) then 0 else clE N t f q E1 y) : E = clE N t f (q + 1) E1 := by
  funext y
  rw [h y]
  unfold clE
  by_cases e : (0 < t ∧ y = (t - 1) * 16 + q * 4 + f) ∨ (t + 1 < N ∧ y = t * 16 + q * 4 + f)
  · rw [if_pos e, if_pos]
    omega
  · rw [if_neg e]
    by_cases e2 : inB N t y ∧ (y % 4 < f ∨ (y % 4 = f ∧ y % 16 / 4 < q))
    · rw [if_pos e2, if_pos (by omega)]
    · rw [if_neg e2, if_neg (by omega)]
theorem clE_f {N t f : Nat} {E1 : Nat → Int} : clE N t f 4 E1 = clE N t (f + 1) 0 E1 := by
  funext y
  unfold clE
  by_cases e : inB N t y ∧ (y % 4 < f ∨ (y % 4 = f ∧ y % 16 / 4 < 4))
  · rw [if_pos e, if_pos (by omega)]
  · rw [if_neg e, if_neg (by omega)]
theorem clE_0 {N t : Nat} {E1 : Nat → Int} : clE N t 0 0 E1 = E1 := by
  funext y
  unfold clE
  exact if_neg (by omega)

theorem k_tc2 {G : GL} {d : Nat} {hp : HP} {sz p N : Nat} (hz : 615 ≤ sz) (hN : 1 ≤ N ∧ N ≤ 8) {l t z x u mm nn : Nat} (ht : t < N) {b : Bool} {i12 w3 : Int} {v6 v7 v17 v18 v19 : AV} {E1 : Nat → Int} (C0 : ModA hp p N) {Q : Option AV → HP → Nat → Prop} {f : Nat} (hf : f < 4) (hq : Ex G (d + 3) 0 0 mX7_turn 512 [vr 92, vi l, vi t, vi z, vi (bz (decide (0 < t))), vi (bz (decide (t + 1 < N))), v6, v7, vi (bz b), vi x, vi u, vi mm, vi i12, vi nn, vi w3, vi f, vi (4 : Nat), v17, v18, v19] [] (up hp 97 (ar 0 128 (clE N t (f + 1) 0 E1))) sz Q) : ∀ q : Nat, q ≤ 4 → Ex G (d + 3) 0 0 mX7_turn 458 [vr 92, vi l, vi t, vi z, vi (bz (decide (0 < t))), vi (bz (decide (t + 1 < N))), v6, v7, vi (bz b), vi x, vi u, vi mm, vi i12, vi nn, vi w3, vi f, vi q, v17, v18, v19] [] (up hp 97 (ar 0 128 (clE N t f q E1))) sz Q := by
  refine down ?_ (fun q hq9 ih => ?_)
  · have C := C0.keep (hp' := (up hp 97 (ar 0 128 (clE N t f 4 E1)))) (up_n _ _ (by omega))
    have hE := up_s hp 97 (ar 0 128 (clE N t f 4 E1))
    obtain ⟨CX0, C1, C2, C3, C4, C5, C6, C7, C8, C11, C12, C13, C14, C15, C16, C17, C18, C19, C20, C21, C22, C23⟩ := id C
    have hob := CX0.ob
    refine x_iload (pc := 458) dX7_turn_458 rfl ?_
    refine x_iconst (pc := 460) dX7_turn_460 ?_
    refine x_icmp_ge (pc := 461) (tgt := 512) dX7_turn_461 (by decide) (by omega) (by omega) (fun c461 => ?_) (fun c461 => ?_)
    · rw [clE_f]
      exact hq
    · exact absurd c461 (by omega)
  · have C := C0.keep (hp' := (up hp 97 (ar 0 128 (clE N t f q E1)))) (up_n _ _ (by omega))
    have hE := up_s hp 97 (ar 0 128 (clE N t f q E1))
    obtain ⟨CX0, C1, C2, C3, C4, C5, C6, C7, C8, C11, C12, C13, C14, C15, C16, C17, C18, C19, C20, C21, C22, C23⟩ := id C
    have hob := CX0.ob
    refine x_iload (pc := 458) dX7_turn_458 rfl ?_
    refine x_iconst (pc := 460) dX7_turn_460 ?_
    refine x_icmp_ge (pc := 461) (tgt := 512) dX7_turn_461 (by decide) (by omega) (by omega) (fun c461 => ?_) (fun c461 => ?_)
    · exact absurd c461 (by omega)
    · refine x_iload (pc := 464) dX7_turn_464 rfl ?_
      refine x_if_eq (pc := 466) (tgt := 486) dX7_turn_466 (by decide) (bz_rg _) (fun c466 => ?_) (fun c466 => ?_)
      · have hL := bz_e c466
        refine x_iload (pc := 486) dX7_turn_486 rfl ?_
        refine x_if_eq (pc := 488) (tgt := 506) dX7_turn_488 (by decide) (bz_rg _) (fun c488 => ?_) (fun c488 => ?_)
        · have hR := bz_e c488
          refine x_iinc (pc := 506) dX7_turn_506 rfl (by decide) rfl ?_
          show Ex _ _ _ _ _ _ [_, _, _, _, _, _, _, _, _, _, _, _, _, _, _, _, _, _, _, _] _ _ _ _
          refine x_goto (pc := 509) (tgt := 458) dX7_turn_509 (by decide) ?_
          first
            | (rw [up_up, up_up, clE_q (N := N) (t := t) (f := f) (q := q) (E1 := E1) hf hq9 (E := up (up (clE N t f q E1) (0 * 128 + (t - 1) * 16 + q * 4 + f) 0) (0 * 128 + t * 16 + q * 4 + f) 0) (fun y => by
                  by_cases e1 : y = 0 * 128 + t * 16 + q * 4 + f
                  · rw [e1, up_s, if_pos (by omega)]
                  · rw [up_n _ _ e1]
                    by_cases e2 : y = 0 * 128 + (t - 1) * 16 + q * 4 + f
                    · rw [e2, up_s, if_pos (by omega)]
                    · rw [up_n _ _ e2, if_neg (by omega)])]
               exact ih)
            | (rw [up_up, clE_q (N := N) (t := t) (f := f) (q := q) (E1 := E1) hf hq9 (E := up (clE N t f q E1) (0 * 128 + (t - 1) * 16 + q * 4 + f) 0) (fun y => by
                  by_cases e2 : y = 0 * 128 + (t - 1) * 16 + q * 4 + f
                  · rw [e2, up_s, if_pos (by omega)]
                  · rw [up_n _ _ e2, if_neg (by omega)])]
               exact ih)
            | (rw [up_up, clE_q (N := N) (t := t) (f := f) (q := q) (E1 := E1) hf hq9 (E := up (clE N t f q E1) (0 * 128 + t * 16 + q * 4 + f) 0) (fun y => by
                  by_cases e2 : y = 0 * 128 + t * 16 + q * 4 + f
                  · rw [e2, up_s, if_pos (by omega)]
                  · rw [up_n _ _ e2, if_neg (by omega)])]
               exact ih)
            | (rw [clE_q (N := N) (t := t) (f := f) (q := q) (E1 := E1) hf hq9 (E := clE N t f q E1) (fun y => by rw [if_neg (by omega)])]
               exact ih)
        · have hR := bz_n c488
          refine x_aload_n (pc := 491) dX7_turn_491 rfl ?_
          refine x_gf (pc := 492) dX7_turn_492 fX7_22 (by assumption) (by omega) ?_
          refine x_iconst (pc := 495) dX7_turn_495 ?_
          refine x_iload_n (pc := 496) dX7_turn_496 rfl ?_
          refine x_iload (pc := 497) dX7_turn_497 rfl ?_
          refine x_iload (pc := 499) dX7_turn_499 rfl ?_
          refine x_t4 (pc := 501) dX7_turn_501 wX7_cell sX7_cell kX7_128 (by decide) rfl (Nat.le_of_ble_eq_true rfl) (m_cell (l := 0) (k := t) (r := q) (c := f)) ?_
          refine x_iconst (pc := 504) dX7_turn_504 ?_
          refine x_is (pc := 505) dX7_turn_505 (by assumption) (by omega) rfl (by omega) ?_
          refine x_iinc (pc := 506) dX7_turn_506 rfl (by decide) rfl ?_
          show Ex _ _ _ _ _ _ [_, _, _, _, _, _, _, _, _, _, _, _, _, _, _, _, _, _, _, _] _ _ _ _
          refine x_goto (pc := 509) (tgt := 458) dX7_turn_509 (by decide) ?_
          first
            | (rw [up_up, up_up, clE_q (N := N) (t := t) (f := f) (q := q) (E1 := E1) hf hq9 (E := up (up (clE N t f q E1) (0 * 128 + (t - 1) * 16 + q * 4 + f) 0) (0 * 128 + t * 16 + q * 4 + f) 0) (fun y => by
                  by_cases e1 : y = 0 * 128 + t * 16 + q * 4 + f
                  · rw [e1, up_s, if_pos (by omega)]
                  · rw [up_n _ _ e1]
                    by_cases e2 : y = 0 * 128 + (t - 1) * 16 + q * 4 + f
                    · rw [e2, up_s, if_pos (by omega)]
                    · rw [up_n _ _ e2, if_neg (by omega)])]
               exact ih)
            | (rw [up_up, clE_q (N := N) (t := t) (f := f) (q := q) (E1 := E1) hf hq9 (E := up (clE N t f q E1) (0 * 128 + (t - 1) * 16 + q * 4 + f) 0) (fun y => by
                  by_cases e2 : y = 0 * 128 + (t - 1) * 16 + q * 4 + f
                  · rw [e2, up_s, if_pos (by omega)]
                  · rw [up_n _ _ e2, if_neg (by omega)])]
               exact ih)
            | (rw [up_up, clE_q (N := N) (t := t) (f := f) (q := q) (E1 := E1) hf hq9 (E := up (clE N t f q E1) (0 * 128 + t * 16 + q * 4 + f) 0) (fun y => by
                  by_cases e2 : y = 0 * 128 + t * 16 + q * 4 + f
                  · rw [e2, up_s, if_pos (by omega)]
                  · rw [up_n _ _ e2, if_neg (by omega)])]
               exact ih)
            | (rw [clE_q (N := N) (t := t) (f := f) (q := q) (E1 := E1) hf hq9 (E := clE N t f q E1) (fun y => by rw [if_neg (by omega)])]
               exact ih)
      · have hL := bz_n c466
        refine x_aload_n (pc := 469) dX7_turn_469 rfl ?_
        refine x_gf (pc := 470) dX7_turn_470 fX7_22 (by assumption) (by omega) ?_
        refine x_iconst (pc := 473) dX7_turn_473 ?_
        refine x_iload_n (pc := 474) dX7_turn_474 rfl ?_
        refine x_iconst (pc := 475) dX7_turn_475 ?_
        refine x_isub (pc := 476) dX7_turn_476 ?_
        rw [show (t : Int) - 1 = ((t - 1 : Nat) : Int) by omega]
        refine x_iload (pc := 477) dX7_turn_477 rfl ?_
        refine x_iload (pc := 479) dX7_turn_479 rfl ?_
        refine x_t4 (pc := 481) dX7_turn_481 wX7_cell sX7_cell kX7_128 (by decide) rfl (Nat.le_of_ble_eq_true rfl) (m_cell (l := 0) (k := t - 1) (r := q) (c := f)) ?_
        refine x_iconst (pc := 484) dX7_turn_484 ?_
        refine x_is (pc := 485) dX7_turn_485 (by assumption) (by omega) rfl (by omega) ?_
        have C12b := C6
        have hE2 := up_s (up hp 97 (ar 0 128 (clE N t f q E1))) 97 (ar 0 128 (up (clE N t f q E1) (0 * 128 + (t - 1) * 16 + q * 4 + f) 0))
        have C6b := C6.up (b := 97) (x := ar 0 128 (up (clE N t f q E1) (0 * 128 + (t - 1) * 16 + q * 4 + f) 0)) (by omega)
        refine x_iload (pc := 486) dX7_turn_486 rfl ?_
        refine x_if_eq (pc := 488) (tgt := 506) dX7_turn_488 (by decide) (bz_rg _) (fun c488 => ?_) (fun c488 => ?_)
        · have hR := bz_e c488
          refine x_iinc (pc := 506) dX7_turn_506 rfl (by decide) rfl ?_
          show Ex _ _ _ _ _ _ [_, _, _, _, _, _, _, _, _, _, _, _, _, _, _, _, _, _, _, _] _ _ _ _
          refine x_goto (pc := 509) (tgt := 458) dX7_turn_509 (by decide) ?_
          first
            | (rw [up_up, up_up, clE_q (N := N) (t := t) (f := f) (q := q) (E1 := E1) hf hq9 (E := up (up (clE N t f q E1) (0 * 128 + (t - 1) * 16 + q * 4 + f) 0) (0 * 128 + t * 16 + q * 4 + f) 0) (fun y => by
                  by_cases e1 : y = 0 * 128 + t * 16 + q * 4 + f
                  · rw [e1, up_s, if_pos (by omega)]
                  · rw [up_n _ _ e1]
                    by_cases e2 : y = 0 * 128 + (t - 1) * 16 + q * 4 + f
                    · rw [e2, up_s, if_pos (by omega)]
                    · rw [up_n _ _ e2, if_neg (by omega)])]
               exact ih)
            | (rw [up_up, clE_q (N := N) (t := t) (f := f) (q := q) (E1 := E1) hf hq9 (E := up (clE N t f q E1) (0 * 128 + (t - 1) * 16 + q * 4 + f) 0) (fun y => by
                  by_cases e2 : y = 0 * 128 + (t - 1) * 16 + q * 4 + f
                  · rw [e2, up_s, if_pos (by omega)]
                  · rw [up_n _ _ e2, if_neg (by omega)])]
               exact ih)
            | (rw [up_up, clE_q (N := N) (t := t) (f := f) (q := q) (E1 := E1) hf hq9 (E := up (clE N t f q E1) (0 * 128 + t * 16 + q * 4 + f) 0) (fun y => by
                  by_cases e2 : y = 0 * 128 + t * 16 + q * 4 + f
                  · rw [e2, up_s, if_pos (by omega)]
                  · rw [up_n _ _ e2, if_neg (by omega)])]
               exact ih)
            | (rw [clE_q (N := N) (t := t) (f := f) (q := q) (E1 := E1) hf hq9 (E := clE N t f q E1) (fun y => by rw [if_neg (by omega)])]
               exact ih)
        · have hR := bz_n c488
          refine x_aload_n (pc := 491) dX7_turn_491 rfl ?_
          refine x_gf (pc := 492) dX7_turn_492 fX7_22 (by assumption) (by omega) ?_
          refine x_iconst (pc := 495) dX7_turn_495 ?_
          refine x_iload_n (pc := 496) dX7_turn_496 rfl ?_
          refine x_iload (pc := 497) dX7_turn_497 rfl ?_
          refine x_iload (pc := 499) dX7_turn_499 rfl ?_
          refine x_t4 (pc := 501) dX7_turn_501 wX7_cell sX7_cell kX7_128 (by decide) rfl (Nat.le_of_ble_eq_true rfl) (m_cell (l := 0) (k := t) (r := q) (c := f)) ?_
          refine x_iconst (pc := 504) dX7_turn_504 ?_
          refine x_is (pc := 505) dX7_turn_505 (by assumption) (by omega) rfl (by omega) ?_
          refine x_iinc (pc := 506) dX7_turn_506 rfl (by decide) rfl ?_
          show Ex _ _ _ _ _ _ [_, _, _, _, _, _, _, _, _, _, _, _, _, _, _, _, _, _, _, _] _ _ _ _
          refine x_goto (pc := 509) (tgt := 458) dX7_turn_509 (by decide) ?_
          first
            | (rw [up_up, up_up, clE_q (N := N) (t := t) (f := f) (q := q) (E1 := E1) hf hq9 (E := up (up (clE N t f q E1) (0 * 128 + (t - 1) * 16 + q * 4 + f) 0) (0 * 128 + t * 16 + q * 4 + f) 0) (fun y => by
                  by_cases e1 : y = 0 * 128 + t * 16 + q * 4 + f
                  · rw [e1, up_s, if_pos (by omega)]
                  · rw [up_n _ _ e1]
                    by_cases e2 : y = 0 * 128 + (t - 1) * 16 + q * 4 + f
                    · rw [e2, up_s, if_pos (by omega)]
                    · rw [up_n _ _ e2, if_neg (by omega)])]
               exact ih)
            | (rw [up_up, clE_q (N := N) (t := t) (f := f) (q := q) (E1 := E1) hf hq9 (E := up (clE N t f q E1) (0 * 128 + (t - 1) * 16 + q * 4 + f) 0) (fun y => by
                  by_cases e2 : y = 0 * 128 + (t - 1) * 16 + q * 4 + f
                  · rw [e2, up_s, if_pos (by omega)]
                  · rw [up_n _ _ e2, if_neg (by omega)])]
               exact ih)
            | (rw [up_up, clE_q (N := N) (t := t) (f := f) (q := q) (E1 := E1) hf hq9 (E := up (clE N t f q E1) (0 * 128 + t * 16 + q * 4 + f) 0) (fun y => by
                  by_cases e2 : y = 0 * 128 + t * 16 + q * 4 + f
                  · rw [e2, up_s, if_pos (by omega)]
                  · rw [up_n _ _ e2, if_neg (by omega)])]
               exact ih)
            | (rw [clE_q (N := N) (t := t) (f := f) (q := q) (E1 := E1) hf hq9 (E := clE N t f q E1) (fun y => by rw [if_neg (by omega)])]
               exact ih)

theorem k_tc1 {G : GL} {d : Nat} {hp : HP} {sz p N : Nat} (hz : 615 ≤ sz) (hN : 1 ≤ N ∧ N ≤ 8) {l t z x u mm nn : Nat} (ht : t < N) {b : Bool} {i12 w3 : Int} {v6 v7 v17 v18 v19 : AV} {E1 : Nat → Int} (C0 : ModA hp p N) {Q : Option AV → HP → Nat → Prop} (hq : ∀ v16, Ex G (d + 3) 0 0 mX7_turn 518 [vr 92, vi l, vi t, vi z, vi (bz (decide (0 < t))), vi (bz (decide (t + 1 < N))), v6, v7, vi (bz b), vi x, vi u, vi mm, vi i12, vi nn, vi w3, vi (4 : Nat), v16, v17, v18, v19] [] (up hp 97 (ar 0 128 (clE N t 4 0 E1))) sz Q) : ∀ f : Nat, f ≤ 4 → ∀ v16, Ex G (d + 3) 0 0 mX7_turn 449 [vr 92, vi l, vi t, vi z, vi (bz (decide (0 < t))), vi (bz (decide (t + 1 < N))), v6, v7, vi (bz b), vi x, vi u, vi mm, vi i12, vi nn, vi w3, vi f, v16, v17, v18, v19] [] (up hp 97 (ar 0 128 (clE N t f 0 E1))) sz Q := by
  refine down (fun v16 => ?_) (fun f hf ih v16 => ?_)
  · have C := C0.keep (hp' := (up hp 97 (ar 0 128 (clE N t 4 0 E1)))) (up_n _ _ (by omega))
    have hE := up_s hp 97 (ar 0 128 (clE N t 4 0 E1))
    obtain ⟨CX0, C1, C2, C3, C4, C5, C6, C7, C8, C11, C12, C13, C14, C15, C16, C17, C18, C19, C20, C21, C22, C23⟩ := id C
    have hob := CX0.ob
    refine x_iload (pc := 449) dX7_turn_449 rfl ?_
    refine x_iconst (pc := 451) dX7_turn_451 ?_
    refine x_icmp_ge (pc := 452) (tgt := 518) dX7_turn_452 (by decide) (by omega) (by omega) (fun c452 => ?_) (fun c452 => ?_)
    · exact hq _
    · exact absurd c452 (by omega)
  · have C := C0.keep (hp' := (up hp 97 (ar 0 128 (clE N t f 0 E1)))) (up_n _ _ (by omega))
    have hE := up_s hp 97 (ar 0 128 (clE N t f 0 E1))
    obtain ⟨CX0, C1, C2, C3, C4, C5, C6, C7, C8, C11, C12, C13, C14, C15, C16, C17, C18, C19, C20, C21, C22, C23⟩ := id C
    have hob := CX0.ob
    refine x_iload (pc := 449) dX7_turn_449 rfl ?_
    refine x_iconst (pc := 451) dX7_turn_451 ?_
    refine x_icmp_ge (pc := 452) (tgt := 518) dX7_turn_452 (by decide) (by omega) (by omega) (fun c452 => ?_) (fun c452 => ?_)
    · exact absurd c452 (by omega)
    · refine x_iconst (pc := 455) dX7_turn_455 ?_
      refine x_istore (pc := 456) dX7_turn_456 (by decide) rfl ?_
      show Ex _ _ _ _ _ _ [_, _, _, _, _, _, _, _, _, _, _, _, _, _, _, _, _, _, _, _] _ _ _ _
      refine k_tc2 (d := d) hz hN ht C0 hf ?_ 0 (by omega)
      refine x_iinc (pc := 512) dX7_turn_512 rfl (by decide) rfl ?_
      show Ex _ _ _ _ _ _ [_, _, _, _, _, _, _, _, _, _, _, _, _, _, _, _, _, _, _, _] _ _ _ _
      refine x_goto (pc := 515) (tgt := 449) dX7_turn_515 (by decide) ?_
      exact ih _

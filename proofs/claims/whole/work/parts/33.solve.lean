theorem rst_lt {p : Nat} {M : Nat → Nat → Int} {hd : Nat → Int} {i j : Nat} (hM : inP M p) (hp : 2 ≤ p) (hr : -1 ≤ hd i ∧ hd i < 4) (hj : j < 8) : 0 ≤ rst p M hd i j ∧ rst p M hd i j < p := by
  unfold rst
  by_cases h1 : i = j
  · rw [if_pos h1]; omega
  · rw [if_neg h1]
    by_cases h2 : hd i = -1
    · rw [if_pos h2]; omega
    · rw [if_neg h2]
      have := hM (hd i).toNat j (by omega) hj
      by_cases h3 : M (hd i).toNat j = 0
      · rw [if_pos h3]; omega
      · rw [if_neg h3]; omega
theorem l_sc2 {G : GL} {d : Nat} {sz : Nat} {b0 b2 bc p : Nat} {M : Nat → Nat → Int} {hd : Nat → Int} {c1 w1 c2 : Nat} {hd2 : Nat → Int} {Q : Option AV → HP → Nat → Prop} (hz0 : b0 < sz) (hz1 : bc + 6 < sz) (hz2 : b2 + 6 < sz) (hw1 : w1 ≤ 4) (hM : inP M p) (hH : ∀ j, j < 8 → -1 ≤ hd j ∧ hd j < 4) (hP : isP p) (hd1 : bc + 6 < b2 ∨ b2 + 6 < bc) (hd0 : b0 < b2 ∨ b2 + 6 < b0) {ρ f : Nat} (hρ : ρ < 4) (hf : f < w1) : ∀ q, q ≤ w1 → ∀ (hp : HP) (M2 : Nat → Nat → Int), fld hp b0 2 3 (vr bc) → RowsA hp bc p M hd c1 w1 → RowsA hp b2 p M2 hd2 c2 w1 → inP M2 p → (∀ h M3, fld h b0 2 3 (vr bc) → RowsA h bc p M hd c1 w1 → RowsA h b2 p M3 hd2 c2 w1 → Fr hp h b2 (b2 + 6) → inP M3 p → (∀ x z, M3 x z = if x = ρ ∧ q ≤ z ∧ z < w1 then rst p M hd z f else M2 x z) → Ex G (d + 1) 0 0 mX2_solveConditions 79 [vr b0, vr b2, vi ρ, vi f, vi w1] [] h sz Q) → Ex G (d + 1) 0 0 mX2_solveConditions 47 [vr b0, vr b2, vi ρ, vi f, vi q] [] hp sz Q := by
  have hrs : ∀ z, z < 4 → 0 ≤ rst p M hd z f ∧ rst p M hd z f < p := fun z hz9 => rst_lt hM hP.le.1 (hH z (by omega)) (by omega)
  refine down (fun hp M2 F3 RA RB hM2 hq => ?_) (fun q hq9 ih hp M2 F3 RA RB hM2 hq => ?_)
  · have hw9 : fld hp b2 3 4 (vi w1) := by obtain ⟨g, σ, h⟩ := RB; exact h.2.2.2.2.1
    refine x_iload (pc := 47) dX2_solveConditions_47 rfl ?_
    refine x_aload_n (pc := 49) dX2_solveConditions_49 rfl ?_
    refine x_gn (pc := 50) dX2_solveConditions_50 fX2_107 hw9 (by omega) ?_
    refine x_icmp_ge (pc := 53) (tgt := 79) dX2_solveConditions_53 (by decide) (by omega) (by omega) (fun c53 => ?_) (fun c53 => ?_)
    · exact hq hp M2 F3 RA RB Fr.rf hM2 (fun x z => by rw [if_neg (by omega)])
    · exact absurd c53 (by omega)
  · have hob2 := RB.ob
    have hor := RA.ob
    have hw9 : fld hp b2 3 4 (vi w1) := by obtain ⟨g, σ, h⟩ := RB; exact h.2.2.2.2.1
    refine x_iload (pc := 47) dX2_solveConditions_47 rfl ?_
    refine x_aload_n (pc := 49) dX2_solveConditions_49 rfl ?_
    refine x_gn (pc := 50) dX2_solveConditions_50 fX2_107 hw9 (by omega) ?_
    refine x_icmp_ge (pc := 53) (tgt := 79) dX2_solveConditions_53 (by decide) (by omega) (by omega) (fun c53 => ?_) (fun c53 => ?_)
    · exact absurd c53 (by omega)
    · refine x_aload_n (pc := 56) dX2_solveConditions_56 rfl ?_
      refine x_iload_n (pc := 57) dX2_solveConditions_57 rfl ?_
      refine x_iload (pc := 58) dX2_solveConditions_58 rfl ?_
      refine x_aload_n (pc := 60) dX2_solveConditions_60 rfl ?_
      refine x_gf (pc := 61) dX2_solveConditions_61 fX2_28 (by assumption) (by omega) ?_
      refine x_iload (pc := 64) dX2_solveConditions_64 rfl ?_
      refine x_iload_n (pc := 66) dX2_solveConditions_66 rfl ?_
      refine x_w2 (pc := 67) dX2_solveConditions_67 wX3_rest iX3_rest kX2_127 (by decide) rfl (Nat.le_of_ble_eq_true rfl) hor (by omega) (t_rst RA hz1 (by omega) (by omega) (hH q (by omega)) hM hP) ?_
      refine x_p3 (pc := 70) dX2_solveConditions_70 wX3_put iX3_put kX2_116 (by decide) rfl (Nat.le_of_ble_eq_true rfl) hob2 (by omega) (t_Rput RB hz2 hρ (by omega)) (fun h70 e70 => ?_)
      obtain ⟨f9, RB9⟩ := e70
      refine x_iinc (pc := 73) dX2_solveConditions_73 rfl (by decide) rfl ?_
      show Ex _ _ _ _ _ _ [_, _, _, _, _] _ _ _ _
      refine x_goto (pc := 76) (tgt := 47) dX2_solveConditions_76 (by decide) ?_
      exact ih h70 _ (F3.keep (f9 _ (by omega))) (RA.keep (fun x h1 h2 => f9 x (by omega))) RB9 (fun x z hx hz9 => by
        by_cases e : x = ρ
        · subst e
          rw [up_s]
          by_cases e2 : z = q
          · subst e2; rw [up_s]; exact hrs z (by omega)
          · rw [up_n _ _ e2]; exact hM2 x z hx hz9
        · rw [up_n _ _ e]; exact hM2 x z hx hz9) (fun h M3 G3 RA3 RB3 f3 m3 e3 => hq h M3 G3 RA3 RB3 (f9.tr f3) m3 (fun x z => by
        rw [e3 x z]
        by_cases e : x = ρ
        · subst e
          rw [up_s]
          by_cases e2 : z = q
          · subst e2
            rw [up_s, if_neg (by omega), if_pos ⟨rfl, by omega, by omega⟩]
          · rw [up_n _ _ e2]
            by_cases e4 : q + 1 ≤ z ∧ z < w1
            · rw [if_pos ⟨rfl, e4⟩, if_pos ⟨rfl, by omega, by omega⟩]
            · rw [if_neg (by omega), if_neg (by omega)]
        · rw [up_n _ _ e, if_neg (fun z9 => e z9.1), if_neg (fun z9 => e z9.1)]))

theorem l_sc1 {G : GL} {d : Nat} {sz : Nat} {b0 b2 bc p : Nat} {M : Nat → Nat → Int} {hd : Nat → Int} {c1 w1 c2 : Nat} {hd2 : Nat → Int} {Q : Option AV → HP → Nat → Prop} (hz0 : b0 < sz) (hz1 : bc + 6 < sz) (hz2 : b2 + 6 < sz) (hw1 : w1 ≤ 4) (hM : inP M p) (hH : ∀ j, j < 8 → -1 ≤ hd j ∧ hd j < 4) (hP : isP p) (hd1 : bc + 6 < b2 ∨ b2 + 6 < bc) (hd0 : b0 < b2 ∨ b2 + 6 < b0) : ∀ f, f ≤ w1 → ∀ (hp : HP) (M2 : Nat → Nat → Int) (v4 : AV), fld hp b0 2 3 (vr bc) → RowsA hp bc p M hd c1 w1 → RowsA hp b2 p M2 hd2 c2 w1 → inP M2 p → (∀ h M3, fld h b0 2 3 (vr bc) → RowsA h bc p M hd c1 w1 → RowsA h b2 p M3 hd2 c2 w1 → Fr hp h b2 (b2 + 6) → inP M3 p → (∀ g, f ≤ g → g < w1 → hd g = -1 → ∀ z, z < w1 → M3 (nf hd g) z = rst p M hd z g) → (∀ x z, x < nf hd f → M3 x z = M2 x z) → Q none h sz) → Ex G (d + 1) 0 0 mX2_solveConditions 22 [vr b0, vr b2, vi (nf hd f), vi f, v4] [] hp sz Q := by
  refine down (fun hp M2 v4 F3 RA RB hM2 hq => ?_) (fun f hf9 ih hp M2 v4 F3 RA RB hM2 hq => ?_)
  · have hw9 : fld hp bc 3 4 (vi w1) := by obtain ⟨g, σ, h⟩ := RA; exact h.2.2.2.2.1
    refine x_iload_n (pc := 22) dX2_solveConditions_22 rfl ?_
    refine x_aload_n (pc := 23) dX2_solveConditions_23 rfl ?_
    refine x_gf (pc := 24) dX2_solveConditions_24 fX2_28 (by assumption) (by omega) ?_
    refine x_gn (pc := 27) dX2_solveConditions_27 fX2_107 hw9 (by omega) ?_
    refine x_icmp_ge (pc := 30) (tgt := 88) dX2_solveConditions_30 (by decide) (by omega) (by omega) (fun c30 => ?_) (fun c30 => ?_)
    · refine x_vret (pc := 88) dX2_solveConditions_88 rfl (hq hp M2 F3 RA RB Fr.rf hM2 (fun g h1 h2 => absurd h2 (by omega)) (fun x z _ => rfl))
    · exact absurd c30 (by omega)
  · have hw9 : fld hp bc 3 4 (vi w1) := by obtain ⟨g, σ, h⟩ := RA; exact h.2.2.2.2.1
    have hor := RA.ob
    refine x_iload_n (pc := 22) dX2_solveConditions_22 rfl ?_
    refine x_aload_n (pc := 23) dX2_solveConditions_23 rfl ?_
    refine x_gf (pc := 24) dX2_solveConditions_24 fX2_28 (by assumption) (by omega) ?_
    refine x_gn (pc := 27) dX2_solveConditions_27 fX2_107 hw9 (by omega) ?_
    refine x_icmp_ge (pc := 30) (tgt := 88) dX2_solveConditions_30 (by decide) (by omega) (by omega) (fun c30 => ?_) (fun c30 => ?_)
    · exact absurd c30 (by omega)
    · refine x_aload_n (pc := 33) dX2_solveConditions_33 rfl ?_
      refine x_gf (pc := 34) dX2_solveConditions_34 fX2_28 (by assumption) (by omega) ?_
      refine x_iload_n (pc := 37) dX2_solveConditions_37 rfl ?_
      refine x_w1 (pc := 38) dX2_solveConditions_38 wX3_isFree iX3_isFree kX2_124 (by decide) rfl (Nat.le_of_ble_eq_true rfl) hor (by omega) (t_isFree RA hz1 (by omega) (hH f (by omega))) ?_
      refine x_if_eq (pc := 41) (tgt := 82) dX2_solveConditions_41 (by decide) (by rcases bz_01 (decide (hd f = -1)) with h | h <;> rw [h] <;> decide) (fun c41 => ?_) (fun c41 => ?_)
      · have hfr : ¬ hd f = -1 := fun h => by simp [bz, h] at c41
        refine x_iinc (pc := 82) dX2_solveConditions_82 rfl (by decide) rfl ?_
        show Ex _ _ _ _ _ _ [_, _, _, _, _] _ _ _ _
        refine x_goto (pc := 85) (tgt := 22) dX2_solveConditions_85 (by decide) ?_
        rw [show (nf hd f : Int) = (nf hd (f + 1) : Int) by rw [nf_f hfr]]
        exact ih hp M2 _ F3 RA RB hM2 (fun h M3 G3 RA3 RB3 f3 m3 e3 e4 => hq h M3 G3 RA3 RB3 f3 m3 (fun g h1 h2 h5 z hz9 => e3 g (by by_cases e : g = f; exact absurd (e ▸ h5) hfr; omega) h2 h5 z hz9) (fun x z hx => e4 x z (by rw [nf_f hfr]; exact hx)))
      · have hfr : hd f = -1 := by
          by_cases h : hd f = -1
          · exact h
          · exact absurd (by simp [bz, h]) c41
        refine x_iconst (pc := 44) dX2_solveConditions_44 ?_
        refine x_istore (pc := 45) dX2_solveConditions_45 (by decide) rfl ?_
        show Ex _ _ _ _ _ _ [_, _, _, _, _] _ _ _ _
        refine l_sc2 hz0 hz1 hz2 hw1 hM hH hP hd1 hd0 (ρ := nf hd f) (by have := nf_le hd f; omega) (by omega) 0 (by omega) hp M2 F3 RA RB hM2 (fun h M3 G3 RA3 RB3 f3 m3 e3 => ?_)
        refine x_iinc (pc := 79) dX2_solveConditions_79 rfl (by decide) rfl ?_
        show Ex _ _ _ _ _ _ [_, _, _, _, _] _ _ _ _
        refine x_iinc (pc := 82) dX2_solveConditions_82 rfl (by decide) rfl ?_
        show Ex _ _ _ _ _ _ [_, _, _, _, _] _ _ _ _
        refine x_goto (pc := 85) (tgt := 22) dX2_solveConditions_85 (by decide) ?_
        rw [show (nf hd f : Int) + 1 = (nf hd (f + 1) : Int) by rw [nf_t hfr]; rfl]
        exact ih h M3 _ G3 RA3 RB3 m3 (fun h4 M4 H3 RA4 RB4 f4 m4 e4 e5 => hq h4 M4 H3 RA4 RB4 (f3.tr f4) m4 (fun g h1 h2 h5 z hz9 => by
          by_cases e : g = f
          · subst e
            rw [e5 _ _ (by rw [nf_t hfr]; omega), e3, if_pos ⟨rfl, by omega, hz9⟩]
          · exact e4 g (by omega) h2 h5 z hz9) (fun x z hx => by
          rw [e5 x z (by rw [nf_t hfr]; omega), e3, if_neg (by omega)]))

set_option maxRecDepth 4000 in
theorem t_solveC {G : GL} {d : Nat} {hp : HP} {sz : Nat} {b0 b2 bc p : Nat} {M M2 : Nat → Nat → Int} {hd hd2 : Nat → Int} {c1 w1 c2 w2 : Nat} (F3 : fld hp b0 2 3 (vr bc)) (RA : RowsA hp bc p M hd c1 w1) (RB : RowsA hp b2 p M2 hd2 c2 w2) (hz0 : b0 < sz) (hz1 : bc + 6 < sz) (hz2 : b2 + 6 < sz) (hw1 : w1 ≤ 4) (hcw : c1 ≤ w1) (hM : inP M p) (hM2 : inP M2 p) (hH : ∀ j, j < 8 → -1 ≤ hd j ∧ hd j < 4) (hP : isP p) (hd1 : bc + 6 < b2 ∨ b2 + 6 < bc) (hd0 : b0 < b2 ∨ b2 + 6 < b0) : Ct G (d + 2) 0 0 mX2_solveConditions [vr b0, vr b2] hp sz (Vd (fun h => Fr hp h b2 (b2 + 6) ∧ ∃ M3 hd3, RowsA h b2 p M3 hd3 (w1 - c1) w1 ∧ inP M3 p ∧ (∀ j, j < 8 → hd3 j = -1) ∧ (∀ g, g < w1 → hd g = -1 → ∀ z, z < w1 → M3 (nf hd g) z = rst p M hd z g)) sz) := by
  show Ex _ _ _ _ _ _ [vr b0, vr b2, vu, vu, vu] _ _ _ _
  have hob2 := RB.ob
  have hor := RA.ob
  have hw9 : fld hp bc 3 4 (vi w1) := by obtain ⟨g, σ, h⟩ := RA; exact h.2.2.2.2.1
  refine x_aload_n (pc := 0) dX2_solveConditions_0 rfl ?_
  refine x_aload_n (pc := 1) dX2_solveConditions_1 rfl ?_
  refine x_gf (pc := 2) dX2_solveConditions_2 fX2_28 (by assumption) (by omega) ?_
  refine x_w0 (pc := 5) dX2_solveConditions_5 wX3_freeCount iX3_freeCount kX2_120 (by decide) rfl (Nat.le_of_ble_eq_true rfl) (by assumption) (by omega) (t_freeCount RA hz1) ?_
  rw [show (w1 : Int) - c1 = ((w1 - c1 : Nat) : Int) by omega]
  refine x_aload_n (pc := 8) dX2_solveConditions_8 rfl ?_
  refine x_gf (pc := 9) dX2_solveConditions_9 fX2_28 (by assumption) (by omega) ?_
  refine x_gn (pc := 12) dX2_solveConditions_12 fX2_107 hw9 (by omega) ?_
  refine x_p2 (pc := 15) dX2_solveConditions_15 wX3_start iX3_start kX2_78 (by decide) rfl (Nat.le_of_ble_eq_true rfl) (by assumption) (by omega) (t_start RB hz2 (by omega) (by omega)) (fun h15 e15 => ?_)
  obtain ⟨f9, hd3, RB3, e3⟩ := e15
  rw [show min (w1 - c1) 4 = w1 - c1 by omega, show min w1 8 = w1 by omega] at RB3
  refine x_iconst (pc := 18) dX2_solveConditions_18 ?_
  refine x_istore_n (pc := 19) dX2_solveConditions_19 (by decide) rfl ?_
  show Ex _ _ _ _ _ _ [_, _, _, _, _] _ _ _ _
  refine x_iconst (pc := 20) dX2_solveConditions_20 ?_
  refine x_istore_n (pc := 21) dX2_solveConditions_21 (by decide) rfl ?_
  show Ex _ _ _ _ _ _ [_, _, _, _, _] _ _ _ _
  exact l_sc1 (d := d + 1) (hd2 := hd3) (c2 := w1 - c1) hz0 hz1 hz2 hw1 hM hH hP hd1 hd0 0 (by omega) h15 M2 _ (F3.keep (f9 _ (by omega))) (RA.keep (fun x h1 h2 => f9 x (by omega))) RB3 hM2 (fun h M3 G3 RA3 RB4 f3 m3 e4 e5 => ⟨rfl, rfl, f9.tr f3, M3, hd3, RB4, m3, e3, fun g h1 h2 z hz9 => e4 g (by omega) h1 h2 z hz9⟩)

theorem l_clr2 {G : GL} {d : Nat} {sz : Nat} {b p c w : Nat} {hd : Nat → Int} {g : Nat → Option Nat} {σ : Nat → Nat} {i k pl : Nat} {fct : Int} {Q : Option AV → HP → Nat → Prop} (hz : b + 6 < sz) (hi : i < 4) (hk : k < 4) (hki : i ≠ k) (hw : w ≤ 8) (hp13 : p ≤ 13) (hp0 : 0 < p) (hf : 0 ≤ fct ∧ fct ≤ p) : ∀ j, j ≤ w → ∀ (hp : HP) (M : Nat → Nat → Int), RowsB hp b p M hd c w g σ → inP M p → (∀ h M1, Fr hp h b (b + 6) → RowsB h b p M1 hd c w g σ → (∀ x z, M1 x z = if x = i ∧ j ≤ z ∧ z < w then (M i z + fct * M k z) % p else M x z) → Ex G d 0 0 mX3_clearElsewhere 96 [vr b, vi k, vi pl, vr (σ k), vi i, vr (σ i), vi fct, vi w] [] h sz Q) → Ex G d 0 0 mX3_clearElsewhere 58 [vr b, vi k, vi pl, vr (σ k), vi i, vr (σ i), vi fct, vi j] [] hp sz Q := by
  refine down (fun hp M R hM hq => ?_) (fun j hj ih hp M R hM hq => ?_)
  · obtain ⟨R1, R2, R3, R4, R5, R6, R7, R8, R9⟩ := id R
    refine x_iload (pc := 58) dX3_clearElsewhere_58 rfl ?_
    refine x_aload_n (pc := 60) dX3_clearElsewhere_60 rfl ?_
    refine x_gf (pc := 61) dX3_clearElsewhere_61 fX3_33 (by assumption) (by omega) ?_
    refine x_icmp_ge (pc := 64) (tgt := 96) dX3_clearElsewhere_64 (by decide) (by omega) (by omega) (fun c64 => ?_) (fun c64 => ?_)
    · exact hq hp M Fr.rf R (fun x z => by rw [if_neg (by omega)])
    · exact absurd c64 (by omega)
  · obtain ⟨R1, R2, R3, R4, R5, R6, R7, R8, R9⟩ := id R
    obtain ⟨a1, a2, a3, a4⟩ := R.lt (i := i) hi
    obtain ⟨b1, b2, b3, b4⟩ := R.lt (i := k) hk
    refine x_iload (pc := 58) dX3_clearElsewhere_58 rfl ?_
    refine x_aload_n (pc := 60) dX3_clearElsewhere_60 rfl ?_
    refine x_gf (pc := 61) dX3_clearElsewhere_61 fX3_33 (by assumption) (by omega) ?_
    refine x_icmp_ge (pc := 64) (tgt := 96) dX3_clearElsewhere_64 (by decide) (by omega) (by omega) (fun c64 => ?_) (fun c64 => ?_)
    · exact absurd c64 (by omega)
    · refine x_aload (pc := 67) dX3_clearElsewhere_67 rfl ?_
      refine x_iload (pc := 69) dX3_clearElsewhere_69 rfl ?_
      refine x_aload (pc := 71) dX3_clearElsewhere_71 rfl ?_
      refine x_iload (pc := 73) dX3_clearElsewhere_73 rfl ?_
      refine x_il (pc := 75) dX3_clearElsewhere_75 (by assumption) (by omega) rfl (by omega) ?_
      refine x_iload (pc := 76) dX3_clearElsewhere_76 rfl ?_
      refine x_aload_n (pc := 78) dX3_clearElsewhere_78 rfl ?_
      refine x_iload (pc := 79) dX3_clearElsewhere_79 rfl ?_
      refine x_il (pc := 81) dX3_clearElsewhere_81 (by assumption) (by omega) rfl (by omega) ?_
      refine x_imul (pc := 82) dX3_clearElsewhere_82 ?_
      refine x_iadd (pc := 83) dX3_clearElsewhere_83 ?_
      refine x_aload_n (pc := 84) dX3_clearElsewhere_84 rfl ?_
      refine x_gf (pc := 85) dX3_clearElsewhere_85 fX3_20 (by assumption) (by omega) ?_
      have hmk := hM k j hk (by omega)
      have hmi := hM i j hi (by omega)
      have hm9 := mul13 hp13 (x := M k j) (y := fct) hmk ⟨hf.1, hf.2⟩
      rw [Int.mul_comm] at hm9
      refine x_irem (pc := 88) dX3_clearElsewhere_88 (by omega) (by omega) ?_
      rw [tm (by omega)]
      refine x_is (pc := 89) dX3_clearElsewhere_89 (by assumption) (by omega) rfl (by omega) ?_
      refine x_iinc (pc := 90) dX3_clearElsewhere_90 rfl (by decide) rfl ?_
      show Ex _ _ _ _ _ _ [_, _, _, _, _, _, _, _] _ _ _ _
      refine x_goto (pc := 93) (tgt := 58) dX3_clearElsewhere_93 (by decide) ?_
      exact ih _ _ (R.row (f := up (M i) j ((M i j + fct * M k j) % p)) hi) (fun x z hx hz9 => by
        by_cases e : x = i
        · subst e
          rw [up_s]
          by_cases e2 : z = j
          · subst e2; rw [up_s]; exact emod_rg (by omega)
          · rw [up_n _ _ e2]; exact hM x z hx hz9
        · rw [up_n _ _ e]; exact hM x z hx hz9) (fun h M1 f1 r1 e1 => hq h M1 ((Fr.rf.up (by omega) (by omega)).tr f1) r1 (fun x z => by
        rw [e1 x z, up_n _ _ (show k ≠ i from fun e => hki e.symm)]
        by_cases e : x = i
        · subst e
          rw [up_s]
          by_cases e2 : z = j
          · subst e2
            rw [up_s, if_neg (by omega), if_pos ⟨rfl, by omega, by omega⟩]
          · rw [up_n _ _ e2]
            by_cases e3 : j + 1 ≤ z ∧ z < w
            · rw [if_pos ⟨rfl, e3⟩, if_pos ⟨rfl, by omega, by omega⟩]
            · rw [if_neg (by omega), if_neg (by omega)]
        · rw [up_n _ _ e, if_neg (fun z9 => e z9.1), if_neg (fun z9 => e z9.1)]))

theorem l_clr1 {G : GL} {d : Nat} {sz : Nat} {b p c w : Nat} {hd : Nat → Int} {g : Nat → Option Nat} {σ : Nat → Nat} {k pl : Nat} {Q : Option AV → HP → Nat → Prop} (hz : b + 6 < sz) (hc : c ≤ 4) (hk : k < 4) (hpl : pl ≤ w) (hpl8 : pl < 8) (hw : w ≤ 8) (hp13 : p ≤ 13) (hp0 : 0 < p) : ∀ i, i ≤ c → ∀ (hp : HP) (M : Nat → Nat → Int) (v5 v6 v7 : AV), RowsB hp b p M hd c w g σ → inP M p → (∀ h M1, Fr hp h b (b + 6) → RowsB h b p M1 hd c w g σ → (∀ x z, M1 x z = if i ≤ x ∧ x < c ∧ x ≠ k ∧ M x pl ≠ 0 ∧ pl ≤ z ∧ z < w then (M x z + (p - M x pl) * M k z) % p else M x z) → Q none h sz) → Ex G d 0 0 mX3_clearElsewhere 10 [vr b, vi k, vi pl, vr (σ k), vi i, v5, v6, v7] [] hp sz Q := by
  refine down (fun hp M v5 v6 v7 R hM hq => ?_) (fun i hi ih hp M v5 v6 v7 R hM hq => ?_)
  · obtain ⟨R1, R2, R3, R4, R5, R6, R7, R8, R9⟩ := id R
    refine x_iload (pc := 10) dX3_clearElsewhere_10 rfl ?_
    refine x_aload_n (pc := 12) dX3_clearElsewhere_12 rfl ?_
    refine x_gf (pc := 13) dX3_clearElsewhere_13 fX3_30 (by assumption) (by omega) ?_
    refine x_icmp_ge (pc := 16) (tgt := 102) dX3_clearElsewhere_16 (by decide) (by omega) (by omega) (fun c16 => ?_) (fun c16 => ?_)
    · refine x_vret (pc := 102) dX3_clearElsewhere_102 rfl (hq hp M Fr.rf R (fun x z => by rw [if_neg (by omega)]))
    · exact absurd c16 (by omega)
  · obtain ⟨R1, R2, R3, R4, R5, R6, R7, R8, R9⟩ := id R
    obtain ⟨a1, a2, a3, a4⟩ := R.lt (i := i) (by omega)
    refine x_iload (pc := 10) dX3_clearElsewhere_10 rfl ?_
    refine x_aload_n (pc := 12) dX3_clearElsewhere_12 rfl ?_
    refine x_gf (pc := 13) dX3_clearElsewhere_13 fX3_30 (by assumption) (by omega) ?_
    refine x_icmp_ge (pc := 16) (tgt := 102) dX3_clearElsewhere_16 (by decide) (by omega) (by omega) (fun c16 => ?_) (fun c16 => ?_)
    · exact absurd c16 (by omega)
    · refine x_aload_n (pc := 19) dX3_clearElsewhere_19 rfl ?_
      refine x_gf (pc := 20) dX3_clearElsewhere_20 fX3_11 (by assumption) (by omega) ?_
      refine x_iload (pc := 23) dX3_clearElsewhere_23 rfl ?_
      refine x_al (pc := 25) dX3_clearElsewhere_25 (by assumption) (by omega) rfl (by omega) (by assumption) ?_
      refine x_astore (pc := 26) dX3_clearElsewhere_26 (by decide) rfl ?_
      show Ex _ _ _ _ _ _ [_, _, _, _, _, _, _, _] _ _ _ _
      refine x_iload (pc := 28) dX3_clearElsewhere_28 rfl ?_
      refine x_iload_n (pc := 30) dX3_clearElsewhere_30 rfl ?_
      refine x_icmp_eq (pc := 31) (tgt := 96) dX3_clearElsewhere_31 (by decide) (by omega) (by omega) (fun c31 => ?_) (fun c31 => ?_)
      · refine x_iinc (pc := 96) dX3_clearElsewhere_96 rfl (by decide) rfl ?_
        show Ex _ _ _ _ _ _ [_, _, _, _, _, _, _, _] _ _ _ _
        refine x_goto (pc := 99) (tgt := 10) dX3_clearElsewhere_99 (by decide) ?_
        exact ih hp M _ _ _ R hM (fun h M1 f1 r1 e1 => hq h M1 f1 r1 (fun x z => by
          rw [e1 x z]
          by_cases e : x = i
          · subst e
            rw [if_neg (by omega), if_neg (by first | omega | (intro q; exact q.2.2.2.1 c38))]
          · by_cases e3 : i + 1 ≤ x
            · simp only [e3, show i ≤ x by omega]
            · rw [if_neg (by omega), if_neg (by omega)]))
      · have c31 : i ≠ k := by omega
        refine x_aload (pc := 34) dX3_clearElsewhere_34 rfl ?_
        refine x_iload_n (pc := 36) dX3_clearElsewhere_36 rfl ?_
        have hmi := hM i pl (by omega) (by omega)
        refine x_il (pc := 37) dX3_clearElsewhere_37 (by assumption) (by omega) rfl (by omega) ?_
        refine x_if_ne (pc := 38) (tgt := 44) dX3_clearElsewhere_38 (by decide) (by omega) (fun c38 => ?_) (fun c38 => ?_)
        · refine x_aload_n (pc := 44) dX3_clearElsewhere_44 rfl ?_
          refine x_gf (pc := 45) dX3_clearElsewhere_45 fX3_20 (by assumption) (by omega) ?_
          refine x_aload (pc := 48) dX3_clearElsewhere_48 rfl ?_
          refine x_iload_n (pc := 50) dX3_clearElsewhere_50 rfl ?_
          refine x_il (pc := 51) dX3_clearElsewhere_51 (by assumption) (by omega) rfl (by omega) ?_
          refine x_isub (pc := 52) dX3_clearElsewhere_52 ?_
          refine x_istore (pc := 53) dX3_clearElsewhere_53 (by decide) rfl ?_
          show Ex _ _ _ _ _ _ [_, _, _, _, _, _, _, _] _ _ _ _
          refine x_iload_n (pc := 55) dX3_clearElsewhere_55 rfl ?_
          refine x_istore (pc := 56) dX3_clearElsewhere_56 (by decide) rfl ?_
          show Ex _ _ _ _ _ _ [_, _, _, _, _, _, _, _] _ _ _ _
          refine l_clr2 hz (by omega) hk c31 hw hp13 hp0 (by omega) pl hpl hp M R hM (fun h M1 f1 r1 e1 => ?_)
          have hM1 : inP M1 p := fun x z hx hz9 => by
            rw [e1 x z]
            split
            · exact emod_rg hp0
            · exact hM x z hx hz9
          refine x_iinc (pc := 96) dX3_clearElsewhere_96 rfl (by decide) rfl ?_
          show Ex _ _ _ _ _ _ [_, _, _, _, _, _, _, _] _ _ _ _
          refine x_goto (pc := 99) (tgt := 10) dX3_clearElsewhere_99 (by decide) ?_
          exact ih h M1 _ _ _ r1 hM1 (fun h2 M2 f2 r2 e2 => hq h2 M2 (f1.tr f2) r2 (fun x z => by
            rw [e2 x z]
            have ek : ∀ z, M1 k z = M k z := fun z => by rw [e1 k z, if_neg (fun q => c31 q.1.symm)]
            rw [ek]
            by_cases e : x = i
            · subst e
              rw [if_neg (by omega), e1 x z]
              by_cases e3 : pl ≤ z ∧ z < w
              · rw [if_pos ⟨rfl, e3⟩, if_pos ⟨Nat.le_refl _, by omega, c31, c38, e3⟩]
              · rw [if_neg (by omega), if_neg (by omega)]
            · have ex : ∀ z, M1 x z = M x z := fun z => by rw [e1 x z, if_neg (fun q => e q.1)]
              rw [ex, ex]
              by_cases e3 : i + 1 ≤ x
              · simp only [e3, show i ≤ x by omega]
              · rw [if_neg (by omega), if_neg (by omega)]))
        · refine x_goto (pc := 41) (tgt := 96) dX3_clearElsewhere_41 (by decide) ?_
          refine x_iinc (pc := 96) dX3_clearElsewhere_96 rfl (by decide) rfl ?_
          show Ex _ _ _ _ _ _ [_, _, _, _, _, _, _, _] _ _ _ _
          refine x_goto (pc := 99) (tgt := 10) dX3_clearElsewhere_99 (by decide) ?_
          exact ih hp M _ _ _ R hM (fun h M1 f1 r1 e1 => hq h M1 f1 r1 (fun x z => by
            rw [e1 x z]
            by_cases e : x = i
            · subst e
              rw [if_neg (by omega), if_neg (by first | omega | (intro q; exact q.2.2.2.1 c38))]
            · by_cases e3 : i + 1 ≤ x
              · simp only [e3, show i ≤ x by omega]
              · rw [if_neg (by omega), if_neg (by omega)]))

set_option maxRecDepth 4000 in
theorem t_clr {G : GL} {d : Nat} {hp : HP} {sz : Nat} {b p c w : Nat} {M : Nat → Nat → Int} {hd : Nat → Int} (R : RowsA hp b p M hd c w) (hz : b + 6 < sz) {k pl : Nat} (hc : c ≤ 4) (hk : k < 4) (hpl : pl < w) (hw : w ≤ 8) (hP : isP p) (hM : inP M p) : Ct G d 0 0 mX3_clearElsewhere [vr b, vi k, vi pl] hp sz (Vd (fun h => Fr hp h b (b + 6) ∧ RowsA h b p (clr p w c M k pl) hd c w) sz) := by
  show Ex _ _ _ _ _ _ [vr b, vi k, vi pl, vu, vu, vu, vu, vu] _ _ _ _
  have hp13 := hP.le
  have hob := R.ob
  obtain ⟨g, σ, R⟩ := R
  obtain ⟨R1, R2, R3, R4, R5, R6, R7, R8, R9⟩ := id R
  obtain ⟨a1, a2, a3, a4⟩ := R.lt (i := k) (by omega)
  refine x_aload_n (pc := 0) dX3_clearElsewhere_0 rfl ?_
  refine x_gf (pc := 1) dX3_clearElsewhere_1 fX3_11 (by assumption) (by omega) ?_
  refine x_iload_n (pc := 4) dX3_clearElsewhere_4 rfl ?_
  refine x_al (pc := 5) dX3_clearElsewhere_5 (by assumption) (by omega) rfl (by omega) (by assumption) ?_
  refine x_astore_n (pc := 6) dX3_clearElsewhere_6 (by decide) rfl ?_
  show Ex _ _ _ _ _ _ [_, _, _, _, _, _, _, _] _ _ _ _
  refine x_iconst (pc := 7) dX3_clearElsewhere_7 ?_
  refine x_istore (pc := 8) dX3_clearElsewhere_8 (by decide) rfl ?_
  show Ex _ _ _ _ _ _ [_, _, _, _, _, _, _, _] _ _ _ _
  exact l_clr1 hz hc hk (by omega) (by omega) hw hp13.2 (by omega) 0 (by omega) hp M _ _ _ R hM (fun h M1 f1 r1 e1 => ⟨rfl, rfl, f1, g, σ, r1.cg (fun i _ => funext fun j => by rw [e1 i j]; unfold clr; simp only [Nat.zero_le, true_and])⟩)

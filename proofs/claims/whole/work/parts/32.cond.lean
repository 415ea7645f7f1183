/-- how many free places lie before f -/
def nf (hd : Nat → Int) : Nat → Nat
  | 0 => 0
  | f + 1 => nf hd f + (if hd f = -1 then 1 else 0)
theorem nf_le (hd : Nat → Int) : ∀ f, nf hd f ≤ f
  | 0 => Nat.le_refl _
  | f + 1 => by
    have := nf_le hd f
    unfold nf
    split <;> omega
theorem nf_t {hd : Nat → Int} {f : Nat} (h : hd f = -1) : nf hd (f + 1) = nf hd f + 1 := by rw [nf, if_pos h]
theorem nf_f {hd : Nat → Int} {f : Nat} (h : ¬ hd f = -1) : nf hd (f + 1) = nf hd f := by rw [nf, if_neg h, Nat.add_zero]
theorem nf_mono (hd : Nat → Int) {f g : Nat} (h : f ≤ g) : nf hd f ≤ nf hd g := by
  induction g with
  | zero => rw [show f = 0 by omega]; exact Nat.le_refl _
  | succ g ih =>
    by_cases e : f = g + 1
    · rw [e]; exact Nat.le_refl _
    · have := ih (by omega)
      rw [nf]
      omega
def rst (p : Nat) (M : Nat → Nat → Int) (hd : Nat → Int) (i j : Nat) : Int := if i = j then 1 else if hd i = -1 then 0 else if M (hd i).toNat j = 0 then 0 else p - M (hd i).toNat j
theorem rst_rg {p : Nat} {M : Nat → Nat → Int} {hd : Nat → Int} {i j : Nat} (hM : inP M p) (hp : 1 ≤ p) (hr : -1 ≤ hd i ∧ hd i < 4) (hj : j < 8) : 0 ≤ rst p M hd i j ∧ rst p M hd i j ≤ p := by
  unfold rst
  by_cases h1 : i = j
  · rw [if_pos h1]; omega
  · rw [if_neg h1]
    by_cases h2 : hd i = -1
    · rw [if_pos h2]; omega
    · rw [if_neg h2]
      have := hM (hd i).toNat j (by omega) hj
      by_cases h3 : M (hd i).toNat j = 0
      · rw [if_pos h3]; omega
      · rw [if_neg h3]; omega
theorem t_rst {G : GL} {d : Nat} {hp : HP} {sz : Nat} {b p c w : Nat} {M : Nat → Nat → Int} {hd : Nat → Int} (R : RowsA hp b p M hd c w) (hz : b + 6 < sz) {i j : Nat} (hi : i < 8) (hj : j < 8) (hr : -1 ≤ hd i ∧ hd i < 4) (hM : inP M p) (hP : isP p) : Ct G d 0 0 mX3_rest [vr b, vi i, vi j] hp sz (Rd (some (vi (rst p M hd i j))) hp sz) :=
  t_rest R hz hi hj hr (fun r hr _ => hM r j hr hj) hP.le.2

theorem l_fc3 {G : GL} {d : Nat} {sz : Nat} {b0 a k b1 bc p : Nat} {s n : Nat → Int} {w : Nat} {M : Nat → Nat → Int} {hd : Nat → Int} {c1 w1 c2 w2 : Nat} {hd2 : Nat → Int} {Q : Option AV → HP → Nat → Prop} (hza : a + 2 < sz) (hz0 : b0 < sz) (hz1 : b1 + 6 < sz) (hz2 : bc + 6 < sz) (hk : k < 7) (hw1 : w1 ≤ 4) (hw2 : w2 ≤ 4) (hM : inP M p) (hH : ∀ j, j < 8 → -1 ≤ hd j ∧ hd j < 4) (hn : inL n p) (hP : isP p) (hd1 : b1 + 6 < bc ∨ bc + 6 < b1) (hda : a + 2 < bc ∨ bc + 6 < a) (hd0 : b0 < bc ∨ bc + 6 < b0) {hp : HP} (L : Lay hp a s n w) (RA : RowsA hp b1 p M hd c1 w1) {ρ f q : Nat} (hf : f < w1) (hq4 : q < 4) (hq : Ex G (d + 1) 0 0 mX2_findConditions 105 [vr b0, vr a, vi k, vr b1, vi ρ, vi f, vi q, vi (sm w1 (fun i => rst p M hd i f * n (k * 16 + i * 4 + q))), vi w1] [] hp sz Q) : ∀ i, i ≤ w1 → Ex G (d + 1) 0 0 mX2_findConditions 67 [vr b0, vr a, vi k, vr b1, vi ρ, vi f, vi q, vi (sm i (fun i => rst p M hd i f * n (k * 16 + i * 4 + q))), vi i] [] hp sz Q := by
  have hoa := L.ob
  have hor := RA.ob
  have hw9 : fld hp b1 3 4 (vi w1) := by obtain ⟨g, σ, h⟩ := RA; exact h.2.2.2.2.1
  refine down ?_ (fun i hi ih => ?_)
  · refine x_iload (pc := 67) dX2_findConditions_67 rfl ?_
    refine x_aload_n (pc := 69) dX2_findConditions_69 rfl ?_
    refine x_gn (pc := 70) dX2_findConditions_70 fX2_107 hw9 (by omega) ?_
    refine x_icmp_ge (pc := 73) (tgt := 105) dX2_findConditions_73 (by decide) (by omega) (by omega) (fun c73 => ?_) (fun c73 => ?_)
    · exact hq
    · exact absurd c73 (by omega)
  · refine x_iload (pc := 67) dX2_findConditions_67 rfl ?_
    refine x_aload_n (pc := 69) dX2_findConditions_69 rfl ?_
    refine x_gn (pc := 70) dX2_findConditions_70 fX2_107 hw9 (by omega) ?_
    refine x_icmp_ge (pc := 73) (tgt := 105) dX2_findConditions_73 (by decide) (by omega) (by omega) (fun c73 => ?_) (fun c73 => ?_)
    · exact absurd c73 (by omega)
    · refine x_iload (pc := 76) dX2_findConditions_76 rfl ?_
      refine x_aload_n (pc := 78) dX2_findConditions_78 rfl ?_
      refine x_iload (pc := 79) dX2_findConditions_79 rfl ?_
      refine x_iload (pc := 81) dX2_findConditions_81 rfl ?_
      refine x_w2 (pc := 83) dX2_findConditions_83 wX3_rest iX3_rest kX2_127 (by decide) rfl (Nat.le_of_ble_eq_true rfl) (by assumption) (by omega) (t_rst RA hz1 (by omega) (by omega) (hH i (by omega)) hM hP) ?_
      refine x_aload_n (pc := 86) dX2_findConditions_86 rfl ?_
      refine x_iload_n (pc := 87) dX2_findConditions_87 rfl ?_
      refine x_iload (pc := 88) dX2_findConditions_88 rfl ?_
      refine x_iload (pc := 90) dX2_findConditions_90 rfl ?_
      refine x_w3 (pc := 92) dX2_findConditions_92 wX0_number iX0_number kX2_110 (by decide) rfl (Nat.le_of_ble_eq_true rfl) (by assumption) (by omega) (t_number L hza hk (by omega) hq4) ?_
      refine x_imul (pc := 95) dX2_findConditions_95 ?_
      refine x_iadd (pc := 96) dX2_findConditions_96 ?_
      refine x_istore (pc := 97) dX2_findConditions_97 (by decide) rfl ?_
      show Ex _ _ _ _ _ _ [_, _, _, _, _, _, _, _, _] _ _ _ _
      refine x_iinc (pc := 99) dX2_findConditions_99 rfl (by decide) rfl ?_
      show Ex _ _ _ _ _ _ [_, _, _, _, _, _, _, _, _] _ _ _ _
      refine x_goto (pc := 102) (tgt := 67) dX2_findConditions_102 (by decide) ?_
      exact ih

theorem l_fc2 {G : GL} {d : Nat} {sz : Nat} {b0 a k b1 bc p : Nat} {s n : Nat → Int} {w : Nat} {M : Nat → Nat → Int} {hd : Nat → Int} {c1 w1 c2 w2 : Nat} {hd2 : Nat → Int} {Q : Option AV → HP → Nat → Prop} (hza : a + 2 < sz) (hz0 : b0 < sz) (hz1 : b1 + 6 < sz) (hz2 : bc + 6 < sz) (hk : k < 7) (hw1 : w1 ≤ 4) (hw2 : w2 ≤ 4) (hM : inP M p) (hH : ∀ j, j < 8 → -1 ≤ hd j ∧ hd j < 4) (hn : inL n p) (hP : isP p) (hd1 : b1 + 6 < bc ∨ bc + 6 < b1) (hda : a + 2 < bc ∨ bc + 6 < a) (hd0 : b0 < bc ∨ bc + 6 < b0) {ρ f : Nat} (hρ : ρ < 4) (hf : f < w1) : ∀ q, q ≤ w2 → ∀ (hp : HP) (M2 : Nat → Nat → Int) (v7 v8 : AV), Lay hp a s n w → fld hp b0 2 0 (vi p) → fld hp b0 2 3 (vr bc) → RowsA hp b1 p M hd c1 w1 → RowsA hp bc p M2 hd2 c2 w2 → inP M2 p → (∀ h M3 v7 v8, Lay h a s n w → fld h b0 2 0 (vi p) → fld h b0 2 3 (vr bc) → RowsA h b1 p M hd c1 w1 → RowsA h bc p M3 hd2 c2 w2 → Fr hp h bc (bc + 6) → inP M3 p → (∀ x z, M3 x z = if x = ρ ∧ q ≤ z ∧ z < w2 then (sm w1 (fun i => rst p M hd i f * n (k * 16 + i * 4 + z))) % p else M2 x z) → Ex G (d + 1) 0 0 mX2_findConditions 129 [vr b0, vr a, vi k, vr b1, vi ρ, vi f, vi w2, v7, v8] [] h sz Q) → Ex G (d + 1) 0 0 mX2_findConditions 49 [vr b0, vr a, vi k, vr b1, vi ρ, vi f, vi q, v7, v8] [] hp sz Q := by
  refine down (fun hp M2 v7 v8 L F0 F3 RA RB hM2 hq => ?_) (fun q hq9 ih hp M2 v7 v8 L F0 F3 RA RB hM2 hq => ?_)
  · have hw9 : fld hp bc 3 4 (vi w2) := by obtain ⟨g, σ, h⟩ := RB; exact h.2.2.2.2.1
    refine x_iload (pc := 49) dX2_findConditions_49 rfl ?_
    refine x_aload_n (pc := 51) dX2_findConditions_51 rfl ?_
    refine x_gf (pc := 52) dX2_findConditions_52 fX2_28 (by assumption) (by omega) ?_
    refine x_gn (pc := 55) dX2_findConditions_55 fX2_107 hw9 (by omega) ?_
    refine x_icmp_ge (pc := 58) (tgt := 129) dX2_findConditions_58 (by decide) (by omega) (by omega) (fun c58 => ?_) (fun c58 => ?_)
    · exact hq hp M2 _ _ L F0 F3 RA RB Fr.rf hM2 (fun x z => by rw [if_neg (by omega)])
    · exact absurd c58 (by omega)
  · have hob2 := RB.ob
    have hw9 : fld hp bc 3 4 (vi w2) := by obtain ⟨g, σ, h⟩ := RB; exact h.2.2.2.2.1
    refine x_iload (pc := 49) dX2_findConditions_49 rfl ?_
    refine x_aload_n (pc := 51) dX2_findConditions_51 rfl ?_
    refine x_gf (pc := 52) dX2_findConditions_52 fX2_28 (by assumption) (by omega) ?_
    refine x_gn (pc := 55) dX2_findConditions_55 fX2_107 hw9 (by omega) ?_
    refine x_icmp_ge (pc := 58) (tgt := 129) dX2_findConditions_58 (by decide) (by omega) (by omega) (fun c58 => ?_) (fun c58 => ?_)
    · exact absurd c58 (by omega)
    · refine x_iconst (pc := 61) dX2_findConditions_61 ?_
      refine x_istore (pc := 62) dX2_findConditions_62 (by decide) rfl ?_
      show Ex _ _ _ _ _ _ [_, _, _, _, _, _, _, _, _] _ _ _ _
      refine x_iconst (pc := 64) dX2_findConditions_64 ?_
      refine x_istore (pc := 65) dX2_findConditions_65 (by decide) rfl ?_
      show Ex _ _ _ _ _ _ [_, _, _, _, _, _, _, _, _] _ _ _ _
      rw [show (0 : Int) = sm 0 (fun i => rst p M hd i f * n (k * 16 + i * 4 + q)) from rfl]
      refine l_fc3 hza hz0 hz1 hz2 hk hw1 hw2 hM hH hn hP hd1 hda hd0 (hd2 := hd2) (c2 := c2) L RA hf (by omega) ?_ 0 (by omega)
      refine x_aload_n (pc := 105) dX2_findConditions_105 rfl ?_
      refine x_gf (pc := 106) dX2_findConditions_106 fX2_28 (by assumption) (by omega) ?_
      refine x_iload (pc := 109) dX2_findConditions_109 rfl ?_
      refine x_iload (pc := 111) dX2_findConditions_111 rfl ?_
      refine x_iload (pc := 113) dX2_findConditions_113 rfl ?_
      refine x_aload_n (pc := 115) dX2_findConditions_115 rfl ?_
      refine x_gf (pc := 116) dX2_findConditions_116 fX2_16 (by assumption) (by omega) ?_
      have hsm := sm_rg (f := (fun i => rst p M hd i f * n (k * 16 + i * 4 + q))) (B := 169) w1 (fun i hi => by have := mul13 hP.le.2 (hn (k * 16 + i * 4 + q) (by omega)) (rst_rg hM (by have := hP.le; omega) (hH i (by omega)) (show f < 8 by omega)); rw [Int.mul_comm] at this; exact this)
      have hpl := hP.le
      refine x_irem (pc := 119) dX2_findConditions_119 (by omega) (by omega) ?_
      rw [tm hsm.1]
      refine x_p3 (pc := 120) dX2_findConditions_120 wX3_put iX3_put kX2_116 (by decide) rfl (Nat.le_of_ble_eq_true rfl) hob2 (by omega) (t_Rput RB hz2 hρ (by omega)) (fun h120 e120 => ?_)
      obtain ⟨f9, RB9⟩ := e120
      refine x_iinc (pc := 123) dX2_findConditions_123 rfl (by decide) rfl ?_
      show Ex _ _ _ _ _ _ [_, _, _, _, _, _, _, _, _] _ _ _ _
      refine x_goto (pc := 126) (tgt := 49) dX2_findConditions_126 (by decide) ?_
      exact ih h120 _ _ _ (L.keep (fun x h1 h2 => f9 x (by omega))) (F0.keep (f9 _ (by omega))) (F3.keep (f9 _ (by omega))) (RA.keep (fun x h1 h2 => f9 x (by omega))) RB9 (fun x z hx hz9 => by
        by_cases e : x = ρ
        · subst e
          rw [up_s]
          by_cases e2 : z = q
          · subst e2; rw [up_s]; exact emod_rg (by have := hP.le; omega)
          · rw [up_n _ _ e2]; exact hM2 x z hx hz9
        · rw [up_n _ _ e]; exact hM2 x z hx hz9) (fun h M3 v7 v8 L3 G0 G3 RA3 RB3 f3 m3 e3 => hq h M3 v7 v8 L3 G0 G3 RA3 RB3 (f9.tr f3) m3 (fun x z => by
        rw [e3 x z]
        by_cases e : x = ρ
        · subst e
          rw [up_s]
          by_cases e2 : z = q
          · subst e2
            rw [up_s, if_neg (by omega), if_pos ⟨rfl, by omega, by omega⟩]
          · rw [up_n _ _ e2]
            by_cases e4 : q + 1 ≤ z ∧ z < w2
            · rw [if_pos ⟨rfl, e4⟩, if_pos ⟨rfl, by omega, by omega⟩]
            · rw [if_neg (by omega), if_neg (by omega)]
        · rw [up_n _ _ e, if_neg (fun z9 => e z9.1), if_neg (fun z9 => e z9.1)]))

theorem l_fc1 {G : GL} {d : Nat} {sz : Nat} {b0 a k b1 bc p : Nat} {s n : Nat → Int} {w : Nat} {M : Nat → Nat → Int} {hd : Nat → Int} {c1 w1 c2 w2 : Nat} {hd2 : Nat → Int} {Q : Option AV → HP → Nat → Prop} (hza : a + 2 < sz) (hz0 : b0 < sz) (hz1 : b1 + 6 < sz) (hz2 : bc + 6 < sz) (hk : k < 7) (hw1 : w1 ≤ 4) (hw2 : w2 ≤ 4) (hM : inP M p) (hH : ∀ j, j < 8 → -1 ≤ hd j ∧ hd j < 4) (hn : inL n p) (hP : isP p) (hd1 : b1 + 6 < bc ∨ bc + 6 < b1) (hda : a + 2 < bc ∨ bc + 6 < a) (hd0 : b0 < bc ∨ bc + 6 < b0) : ∀ f, f ≤ w1 → ∀ (hp : HP) (M2 : Nat → Nat → Int) (v6 v7 v8 : AV), Lay hp a s n w → fld hp b0 2 0 (vi p) → fld hp b0 2 3 (vr bc) → RowsA hp b1 p M hd c1 w1 → RowsA hp bc p M2 hd2 c2 w2 → inP M2 p → (∀ h M3, Lay h a s n w → fld h b0 2 0 (vi p) → fld h b0 2 3 (vr bc) → RowsA h b1 p M hd c1 w1 → RowsA h bc p M3 hd2 c2 w2 → Fr hp h bc (bc + 6) → inP M3 p → (∀ g, f ≤ g → g < w1 → hd g = -1 → ∀ z, z < w2 → M3 (nf hd g) z = (sm w1 (fun i => rst p M hd i g * n (k * 16 + i * 4 + z))) % p) → (∀ x z, x < nf hd f → M3 x z = M2 x z) → Q none h sz) → Ex G (d + 1) 0 0 mX2_findConditions 25 [vr b0, vr a, vi k, vr b1, vi (nf hd f), vi f, v6, v7, v8] [] hp sz Q := by
  refine down (fun hp M2 v6 v7 v8 L F0 F3 RA RB hM2 hq => ?_) (fun f hf9 ih hp M2 v6 v7 v8 L F0 F3 RA RB hM2 hq => ?_)
  · have hw9 : fld hp b1 3 4 (vi w1) := by obtain ⟨g, σ, h⟩ := RA; exact h.2.2.2.2.1
    refine x_iload (pc := 25) dX2_findConditions_25 rfl ?_
    refine x_aload_n (pc := 27) dX2_findConditions_27 rfl ?_
    refine x_gn (pc := 28) dX2_findConditions_28 fX2_107 hw9 (by omega) ?_
    refine x_icmp_ge (pc := 31) (tgt := 138) dX2_findConditions_31 (by decide) (by omega) (by omega) (fun c31 => ?_) (fun c31 => ?_)
    · refine x_vret (pc := 138) dX2_findConditions_138 rfl (hq hp M2 L F0 F3 RA RB Fr.rf hM2 (fun g h1 h2 => absurd h2 (by omega)) (fun x z _ => rfl))
    · exact absurd c31 (by omega)
  · have hw9 : fld hp b1 3 4 (vi w1) := by obtain ⟨g, σ, h⟩ := RA; exact h.2.2.2.2.1
    have hor := RA.ob
    refine x_iload (pc := 25) dX2_findConditions_25 rfl ?_
    refine x_aload_n (pc := 27) dX2_findConditions_27 rfl ?_
    refine x_gn (pc := 28) dX2_findConditions_28 fX2_107 hw9 (by omega) ?_
    refine x_icmp_ge (pc := 31) (tgt := 138) dX2_findConditions_31 (by decide) (by omega) (by omega) (fun c31 => ?_) (fun c31 => ?_)
    · exact absurd c31 (by omega)
    · refine x_aload_n (pc := 34) dX2_findConditions_34 rfl ?_
      refine x_iload (pc := 35) dX2_findConditions_35 rfl ?_
      refine x_w1 (pc := 37) dX2_findConditions_37 wX3_isFree iX3_isFree kX2_124 (by decide) rfl (Nat.le_of_ble_eq_true rfl) hor (by omega) (t_isFree RA hz1 (by omega) (hH f (by omega))) ?_
      refine x_if_ne (pc := 40) (tgt := 46) dX2_findConditions_40 (by decide) (by rcases bz_01 (decide (hd f = -1)) with h | h <;> rw [h] <;> decide) (fun c40 => ?_) (fun c40 => ?_)
      · have hfr : hd f = -1 := by
          by_cases h : hd f = -1
          · exact h
          · exact absurd (by simp [bz, h]) c40
        refine x_iconst (pc := 46) dX2_findConditions_46 ?_
        refine x_istore (pc := 47) dX2_findConditions_47 (by decide) rfl ?_
        show Ex _ _ _ _ _ _ [_, _, _, _, _, _, _, _, _] _ _ _ _
        refine l_fc2 hza hz0 hz1 hz2 hk hw1 hw2 hM hH hn hP hd1 hda hd0 (ρ := nf hd f) (by have := nf_le hd f; omega) (by omega) 0 (by omega) hp M2 _ _ L F0 F3 RA RB hM2 (fun h M3 v7 v8 L3 G0 G3 RA3 RB3 f3 m3 e3 => ?_)
        refine x_iinc (pc := 129) dX2_findConditions_129 rfl (by decide) rfl ?_
        show Ex _ _ _ _ _ _ [_, _, _, _, _, _, _, _, _] _ _ _ _
        refine x_iinc (pc := 132) dX2_findConditions_132 rfl (by decide) rfl ?_
        show Ex _ _ _ _ _ _ [_, _, _, _, _, _, _, _, _] _ _ _ _
        refine x_goto (pc := 135) (tgt := 25) dX2_findConditions_135 (by decide) ?_
        rw [show (nf hd f : Int) + 1 = (nf hd (f + 1) : Int) by rw [nf_t hfr]; rfl]
        exact ih h M3 _ _ _ L3 G0 G3 RA3 RB3 m3 (fun h4 M4 L4 H0 H3 RA4 RB4 f4 m4 e4 e5 => hq h4 M4 L4 H0 H3 RA4 RB4 (f3.tr f4) m4 (fun g h1 h2 h5 z hz9 => by
          by_cases e : g = f
          · subst e
            rw [e5 _ _ (by rw [nf_t hfr]; omega), e3, if_pos ⟨rfl, by omega, hz9⟩]
          · exact e4 g (by omega) h2 h5 z hz9) (fun x z hx => by
          rw [e5 x z (by rw [nf_t hfr]; omega), e3, if_neg (by omega)]))
      · have hfr : ¬ hd f = -1 := fun h => by simp [bz, h] at c40
        refine x_goto (pc := 43) (tgt := 132) dX2_findConditions_43 (by decide) ?_
        refine x_iinc (pc := 132) dX2_findConditions_132 rfl (by decide) rfl ?_
        show Ex _ _ _ _ _ _ [_, _, _, _, _, _, _, _, _] _ _ _ _
        refine x_goto (pc := 135) (tgt := 25) dX2_findConditions_135 (by decide) ?_
        rw [show (nf hd f : Int) = (nf hd (f + 1) : Int) by rw [nf_f hfr]]
        exact ih hp M2 _ _ _ L F0 F3 RA RB hM2 (fun h M3 L3 G0 G3 RA3 RB3 f3 m3 e3 e4 => hq h M3 L3 G0 G3 RA3 RB3 f3 m3 (fun g h1 h2 h5 z hz9 => e3 g (by by_cases e : g = f; exact absurd (e ▸ h5) hfr; omega) h2 h5 z hz9) (fun x z hx => e4 x z (by rw [nf_f hfr]; exact hx)))

set_option maxRecDepth 4000 in
theorem t_findC {G : GL} {d : Nat} {hp : HP} {sz : Nat} {b0 a k b1 bc p : Nat} {s n : Nat → Int} {w : Nat} {M M2 : Nat → Nat → Int} {hd hd2 : Nat → Int} {c1 w1 c2 w2 w3 : Nat} (L : Lay hp a s n w) (F0 : fld hp b0 2 0 (vi p)) (F3 : fld hp b0 2 3 (vr bc)) (RA : RowsA hp b1 p M hd c1 w1) (RB : RowsA hp bc p M2 hd2 c2 w2) (hza : a + 2 < sz) (hz0 : b0 < sz) (hz1 : b1 + 6 < sz) (hz2 : bc + 6 < sz) (hk : k < 7) (hw1 : w1 ≤ 4) (hcw : c1 ≤ w1) (es : s (k + 1) = w3) (hw3 : w3 ≤ 4) (hM : inP M p) (hM2 : inP M2 p) (hH : ∀ j, j < 8 → -1 ≤ hd j ∧ hd j < 4) (hn : inL n p) (hP : isP p) (hd1 : b1 + 6 < bc ∨ bc + 6 < b1) (hda : a + 2 < bc ∨ bc + 6 < a) (hd0 : b0 < bc ∨ bc + 6 < b0) : Ct G (d + 2) 0 0 mX2_findConditions [vr b0, vr a, vi k, vr b1] hp sz (Vd (fun h => Fr hp h bc (bc + 6) ∧ ∃ M3 hd3, RowsA h bc p M3 hd3 (w1 - c1) w3 ∧ inP M3 p ∧ (∀ j, j < 8 → hd3 j = -1) ∧ (∀ g, g < w1 → hd g = -1 → ∀ z, z < w3 → M3 (nf hd g) z = (sm w1 (fun i => rst p M hd i g * n (k * 16 + i * 4 + z))) % p)) sz) := by
  show Ex _ _ _ _ _ _ [vr b0, vr a, vi k, vr b1, vu, vu, vu, vu, vu] _ _ _ _
  have hob2 := RB.ob
  have hor := RA.ob
  obtain ⟨L1, L2, L3, L4, L5⟩ := id L
  refine x_aload_n (pc := 0) dX2_findConditions_0 rfl ?_
  refine x_gf (pc := 1) dX2_findConditions_1 fX2_28 (by assumption) (by omega) ?_
  refine x_aload_n (pc := 4) dX2_findConditions_4 rfl ?_
  refine x_w0 (pc := 5) dX2_findConditions_5 wX3_freeCount iX3_freeCount kX2_120 (by decide) rfl (Nat.le_of_ble_eq_true rfl) (by assumption) (by omega) (t_freeCount RA hz1) ?_
  rw [show (w1 : Int) - c1 = ((w1 - c1 : Nat) : Int) by omega]
  refine x_aload_n (pc := 8) dX2_findConditions_8 rfl ?_
  refine x_gn (pc := 9) dX2_findConditions_9 fX2_69 (by assumption) (by omega) ?_
  refine x_iload_n (pc := 12) dX2_findConditions_12 rfl ?_
  refine x_iconst (pc := 13) dX2_findConditions_13 ?_
  refine x_iadd (pc := 14) dX2_findConditions_14 ?_
  refine x_il (pc := 15) (j := k + 1) dX2_findConditions_15 (by assumption) (by omega) (by omega) (by omega) ?_
  rw [es]
  refine x_p2 (pc := 16) dX2_findConditions_16 wX3_start iX3_start kX2_78 (by decide) rfl (Nat.le_of_ble_eq_true rfl) (by assumption) (by omega) (t_start RB hz2 (by omega) (by omega)) (fun h16 e16 => ?_)
  obtain ⟨f9, hd3, RB3, e3⟩ := e16
  rw [show min (w1 - c1) 4 = w1 - c1 by omega, show min w3 8 = w3 by omega] at RB3
  refine x_iconst (pc := 19) dX2_findConditions_19 ?_
  refine x_istore (pc := 20) dX2_findConditions_20 (by decide) rfl ?_
  show Ex _ _ _ _ _ _ [_, _, _, _, _, _, _, _, _] _ _ _ _
  refine x_iconst (pc := 22) dX2_findConditions_22 ?_
  refine x_istore (pc := 23) dX2_findConditions_23 (by decide) rfl ?_
  show Ex _ _ _ _ _ _ [_, _, _, _, _, _, _, _, _] _ _ _ _
  exact l_fc1 (d := d + 1) (hd2 := hd3) (c2 := w1 - c1) hza hz0 hz1 hz2 hk hw1 hw3 hM hH hn hP hd1 hda hd0 0 (by omega) h16 M2 _ _ _ (L.keep (fun x h1 h2 => f9 x (by omega))) (F0.keep (f9 _ (by omega))) (F3.keep (f9 _ (by omega))) (RA.keep (fun x h1 h2 => f9 x (by omega))) RB3 hM2 (fun h M3 L3 G0 G3 RA3 RB4 f3 m3 e4 e5 => ⟨rfl, rfl, f9.tr f3, M3, hd3, RB4, m3, e3, fun g h1 h2 z hz9 => e4 g (by omega) h1 h2 z hz9⟩)

def sm (n : Nat) (f : Nat → Int) : Int := match n with
  | 0 => 0
  | n + 1 => sm n f + f n
theorem sm_0 (f : Nat → Int) : sm 0 f = 0 := rfl
theorem sm_s (n : Nat) (f : Nat → Int) : sm (n + 1) f = sm n f + f n := rfl
theorem sm_rg {f : Nat → Int} {B : Int} : ∀ n, (∀ i, i < n → 0 ≤ f i ∧ f i ≤ B) → 0 ≤ sm n f ∧ sm n f ≤ n * B
  | 0, _ => by simp [sm]
  | n + 1, h => by
    have ih := sm_rg n (fun i hi => h i (by omega))
    have h1 := h n (by omega)
    rw [sm_s, Int.natCast_add, Int.add_mul]
    simp only [Int.natCast_one, Int.one_mul]
    omega
theorem sm_cg {f g : Nat → Int} : ∀ n, (∀ i, i < n → f i = g i) → sm n f = sm n g
  | 0, _ => rfl
  | n + 1, h => by rw [sm_s, sm_s, sm_cg n (fun i hi => h i (by omega)), h n (by omega)]
/-- the Rows' cells may be read as a grid of numbers below the prime; the laying's too -/
def inL (n : Nat → Int) (p : Nat) : Prop := ∀ j, j < 112 → 0 ≤ n j ∧ n j < p

theorem l_la3 {G : GL} {d : Nat} {sz : Nat} {b0 a k b1 b2 p : Nat} {s n : Nat → Int} {w : Nat} {M : Nat → Nat → Int} {hd : Nat → Int} {c1 w1 c2 w2 : Nat} {hd2 : Nat → Int} {Q : Option AV → HP → Nat → Prop} (hza : a + 2 < sz) (hz0 : b0 < sz) (hz1 : b1 + 6 < sz) (hz2 : b2 + 6 < sz) (hk : k < 7) (hc1 : c1 ≤ 4) (hw1 : w1 ≤ 4) (hc2 : c2 ≤ c1) (hw2 : w2 ≤ 4) (hM : inP M p) (hn : inL n p) (hP : isP p) (hd1 : b1 + 6 < b2 ∨ b2 + 6 < b1) (hda : a + 2 < b2 ∨ b2 + 6 < a) (hd0 : b0 < b2 ∨ b2 + 6 < b0) {hp : HP} (L : Lay hp a s n w) (F0 : fld hp b0 2 0 (vi p)) (RA : RowsA hp b1 p M hd c1 w1) {r q : Nat} (hr : r < 4) (hq4 : q < 4) (hq : Ex G (d + 1) 0 0 mX2_leadAlong 87 [vr b0, vr a, vi k, vr b1, vr b2, vi r, vi q, vi (sm w1 (fun i => n (k * 16 + q * 4 + i) * M r i)), vi w1] [] hp sz Q) : ∀ i, i ≤ w1 → Ex G (d + 1) 0 0 mX2_leadAlong 49 [vr b0, vr a, vi k, vr b1, vr b2, vi r, vi q, vi (sm i (fun i => n (k * 16 + q * 4 + i) * M r i)), vi i] [] hp sz Q := by
  have hoa := L.ob
  have hor := RA.ob
  have hw9 : fld hp b1 3 4 (vi w1) := by obtain ⟨g, σ, h⟩ := RA; exact h.2.2.2.2.1
  refine down ?_ (fun i hi ih => ?_)
  · refine x_iload (pc := 49) dX2_leadAlong_49 rfl ?_
    refine x_aload_n (pc := 51) dX2_leadAlong_51 rfl ?_
    refine x_gn (pc := 52) dX2_leadAlong_52 fX2_107 hw9 (by omega) ?_
    refine x_icmp_ge (pc := 55) (tgt := 87) dX2_leadAlong_55 (by decide) (by omega) (by omega) (fun c55 => ?_) (fun c55 => ?_)
    · exact hq
    · exact absurd c55 (by omega)
  · refine x_iload (pc := 49) dX2_leadAlong_49 rfl ?_
    refine x_aload_n (pc := 51) dX2_leadAlong_51 rfl ?_
    refine x_gn (pc := 52) dX2_leadAlong_52 fX2_107 hw9 (by omega) ?_
    refine x_icmp_ge (pc := 55) (tgt := 87) dX2_leadAlong_55 (by decide) (by omega) (by omega) (fun c55 => ?_) (fun c55 => ?_)
    · exact absurd c55 (by omega)
    · refine x_iload (pc := 58) dX2_leadAlong_58 rfl ?_
      refine x_aload_n (pc := 60) dX2_leadAlong_60 rfl ?_
      refine x_iload_n (pc := 61) dX2_leadAlong_61 rfl ?_
      refine x_iload (pc := 62) dX2_leadAlong_62 rfl ?_
      refine x_iload (pc := 64) dX2_leadAlong_64 rfl ?_
      refine x_w3 (pc := 66) dX2_leadAlong_66 wX0_number iX0_number kX2_110 (by decide) rfl (Nat.le_of_ble_eq_true rfl) (by assumption) (by omega) (t_number L hza hk hq4 (by omega)) ?_
      refine x_aload_n (pc := 69) dX2_leadAlong_69 rfl ?_
      refine x_iload (pc := 70) dX2_leadAlong_70 rfl ?_
      refine x_iload (pc := 72) dX2_leadAlong_72 rfl ?_
      refine x_w2 (pc := 74) dX2_leadAlong_74 wX3_number iX3_number kX2_114 (by decide) rfl (Nat.le_of_ble_eq_true rfl) (by assumption) (by omega) (t_Rnumber RA hz1 hr (by omega)) ?_
      refine x_imul (pc := 77) dX2_leadAlong_77 ?_
      refine x_iadd (pc := 78) dX2_leadAlong_78 ?_
      refine x_istore (pc := 79) dX2_leadAlong_79 (by decide) rfl ?_
      show Ex _ _ _ _ _ _ [_, _, _, _, _, _, _, _, _] _ _ _ _
      refine x_iinc (pc := 81) dX2_leadAlong_81 rfl (by decide) rfl ?_
      show Ex _ _ _ _ _ _ [_, _, _, _, _, _, _, _, _] _ _ _ _
      refine x_goto (pc := 84) (tgt := 49) dX2_leadAlong_84 (by decide) ?_
      exact ih

theorem l_la2 {G : GL} {d : Nat} {sz : Nat} {b0 a k b1 b2 p : Nat} {s n : Nat → Int} {w : Nat} {M : Nat → Nat → Int} {hd : Nat → Int} {c1 w1 c2 w2 : Nat} {hd2 : Nat → Int} {Q : Option AV → HP → Nat → Prop} (hza : a + 2 < sz) (hz0 : b0 < sz) (hz1 : b1 + 6 < sz) (hz2 : b2 + 6 < sz) (hk : k < 7) (hc1 : c1 ≤ 4) (hw1 : w1 ≤ 4) (hc2 : c2 ≤ c1) (hw2 : w2 ≤ 4) (hM : inP M p) (hn : inL n p) (hP : isP p) (hd1 : b1 + 6 < b2 ∨ b2 + 6 < b1) (hda : a + 2 < b2 ∨ b2 + 6 < a) (hd0 : b0 < b2 ∨ b2 + 6 < b0) {r : Nat} (hr : r < 4) : ∀ q, q ≤ w2 → ∀ (hp : HP) (M2 : Nat → Nat → Int) (v7 v8 : AV), Lay hp a s n w → fld hp b0 2 0 (vi p) → RowsA hp b1 p M hd c1 w1 → RowsA hp b2 p M2 hd2 c2 w2 → (∀ h M3 v7 v8, Lay h a s n w → fld h b0 2 0 (vi p) → RowsA h b1 p M hd c1 w1 → RowsA h b2 p M3 hd2 c2 w2 → Fr hp h b2 (b2 + 6) → (∀ x z, M3 x z = if x = r ∧ q ≤ z ∧ z < w2 then (sm w1 (fun i => n (k * 16 + z * 4 + i) * M r i)) % p else M2 x z) → Ex G (d + 1) 0 0 mX2_leadAlong 109 [vr b0, vr a, vi k, vr b1, vr b2, vi r, vi w2, v7, v8] [] h sz Q) → Ex G (d + 1) 0 0 mX2_leadAlong 33 [vr b0, vr a, vi k, vr b1, vr b2, vi r, vi q, v7, v8] [] hp sz Q := by
  refine down (fun hp M2 v7 v8 L F0 RA RB hq => ?_) (fun q hq9 ih hp M2 v7 v8 L F0 RA RB hq => ?_)
  · have hw9 : fld hp b2 3 4 (vi w2) := by obtain ⟨g, σ, h⟩ := RB; exact h.2.2.2.2.1
    refine x_iload (pc := 33) dX2_leadAlong_33 rfl ?_
    refine x_aload (pc := 35) dX2_leadAlong_35 rfl ?_
    refine x_gn (pc := 37) dX2_leadAlong_37 fX2_107 hw9 (by omega) ?_
    refine x_icmp_ge (pc := 40) (tgt := 109) dX2_leadAlong_40 (by decide) (by omega) (by omega) (fun c40 => ?_) (fun c40 => ?_)
    · exact hq hp M2 _ _ L F0 RA RB Fr.rf (fun x z => by rw [if_neg (by omega)])
    · exact absurd c40 (by omega)
  · have hob2 := RB.ob
    have hw9 : fld hp b2 3 4 (vi w2) := by obtain ⟨g, σ, h⟩ := RB; exact h.2.2.2.2.1
    refine x_iload (pc := 33) dX2_leadAlong_33 rfl ?_
    refine x_aload (pc := 35) dX2_leadAlong_35 rfl ?_
    refine x_gn (pc := 37) dX2_leadAlong_37 fX2_107 hw9 (by omega) ?_
    refine x_icmp_ge (pc := 40) (tgt := 109) dX2_leadAlong_40 (by decide) (by omega) (by omega) (fun c40 => ?_) (fun c40 => ?_)
    · exact absurd c40 (by omega)
    · refine x_iconst (pc := 43) dX2_leadAlong_43 ?_
      refine x_istore (pc := 44) dX2_leadAlong_44 (by decide) rfl ?_
      show Ex _ _ _ _ _ _ [_, _, _, _, _, _, _, _, _] _ _ _ _
      refine x_iconst (pc := 46) dX2_leadAlong_46 ?_
      refine x_istore (pc := 47) dX2_leadAlong_47 (by decide) rfl ?_
      show Ex _ _ _ _ _ _ [_, _, _, _, _, _, _, _, _] _ _ _ _
      rw [show (0 : Int) = sm 0 (fun i => n (k * 16 + q * 4 + i) * M r i) from rfl]
      refine l_la3 hza hz0 hz1 hz2 hk hc1 hw1 hc2 hw2 hM hn hP hd1 hda hd0 (hd2 := hd2) L F0 RA hr (by omega) ?_ 0 (by omega)
      refine x_aload (pc := 87) dX2_leadAlong_87 rfl ?_
      refine x_iload (pc := 89) dX2_leadAlong_89 rfl ?_
      refine x_iload (pc := 91) dX2_leadAlong_91 rfl ?_
      refine x_iload (pc := 93) dX2_leadAlong_93 rfl ?_
      refine x_aload_n (pc := 95) dX2_leadAlong_95 rfl ?_
      refine x_gf (pc := 96) dX2_leadAlong_96 fX2_16 (by assumption) (by omega) ?_
      have hsm := sm_rg (f := (fun i => n (k * 16 + q * 4 + i) * M r i)) (B := 169) w1 (fun i hi => by have := mul13 hP.le.2 (hn (k * 16 + q * 4 + i) (by omega)) ⟨(hM r i hr (by omega)).1, by have := (hM r i hr (by omega)).2; omega⟩; exact this)
      have hpl := hP.le
      refine x_irem (pc := 99) dX2_leadAlong_99 (by omega) (by omega) ?_
      rw [tm hsm.1]
      refine x_p3 (pc := 100) dX2_leadAlong_100 wX3_put iX3_put kX2_116 (by decide) rfl (Nat.le_of_ble_eq_true rfl) hob2 (by omega) (t_Rput RB hz2 hr (by omega)) (fun h100 e100 => ?_)
      obtain ⟨f9, RB9⟩ := e100
      refine x_iinc (pc := 103) dX2_leadAlong_103 rfl (by decide) rfl ?_
      show Ex _ _ _ _ _ _ [_, _, _, _, _, _, _, _, _] _ _ _ _
      refine x_goto (pc := 106) (tgt := 33) dX2_leadAlong_106 (by decide) ?_
      exact ih h100 _ _ _ (L.keep (fun x h1 h2 => f9 x (by omega))) (F0.keep (f9 _ (by omega))) (RA.keep (fun x h1 h2 => f9 x (by omega))) RB9 (fun h M3 v7 v8 L3 F3 RA3 RB3 f3 e3 => hq h M3 v7 v8 L3 F3 RA3 RB3 (f9.tr f3) (fun x z => by
        rw [e3 x z]
        by_cases e : x = r
        · subst e
          rw [up_s]
          by_cases e2 : z = q
          · subst e2
            rw [up_s, if_neg (by omega), if_pos ⟨rfl, by omega, by omega⟩]
          · rw [up_n _ _ e2]
            by_cases e4 : q + 1 ≤ z ∧ z < w2
            · rw [if_pos ⟨rfl, e4⟩, if_pos ⟨rfl, by omega, by omega⟩]
            · rw [if_neg (by omega), if_neg (by omega)]
        · rw [up_n _ _ e, if_neg (fun z9 => e z9.1), if_neg (fun z9 => e z9.1)]))

theorem l_la1 {G : GL} {d : Nat} {sz : Nat} {b0 a k b1 b2 p : Nat} {s n : Nat → Int} {w : Nat} {M : Nat → Nat → Int} {hd : Nat → Int} {c1 w1 c2 w2 : Nat} {hd2 : Nat → Int} {Q : Option AV → HP → Nat → Prop} (hza : a + 2 < sz) (hz0 : b0 < sz) (hz1 : b1 + 6 < sz) (hz2 : b2 + 6 < sz) (hk : k < 7) (hc1 : c1 ≤ 4) (hw1 : w1 ≤ 4) (hc2 : c2 ≤ c1) (hw2 : w2 ≤ 4) (hM : inP M p) (hn : inL n p) (hP : isP p) (hd1 : b1 + 6 < b2 ∨ b2 + 6 < b1) (hda : a + 2 < b2 ∨ b2 + 6 < a) (hd0 : b0 < b2 ∨ b2 + 6 < b0) : ∀ r, r ≤ c2 → ∀ (hp : HP) (M2 : Nat → Nat → Int) (v6 v7 v8 : AV), Lay hp a s n w → fld hp b0 2 0 (vi p) → RowsA hp b1 p M hd c1 w1 → RowsA hp b2 p M2 hd2 c2 w2 → (∀ h M3, Lay h a s n w → fld h b0 2 0 (vi p) → RowsA h b1 p M hd c1 w1 → RowsA h b2 p M3 hd2 c2 w2 → Fr hp h b2 (b2 + 6) → (∀ x z, M3 x z = if r ≤ x ∧ x < c2 ∧ z < w2 then (sm w1 (fun i => n (k * 16 + z * 4 + i) * M x i)) % p else M2 x z) → Q none h sz) → Ex G (d + 1) 0 0 mX2_leadAlong 20 [vr b0, vr a, vi k, vr b1, vr b2, vi r, v6, v7, v8] [] hp sz Q := by
  refine down (fun hp M2 v6 v7 v8 L F0 RA RB hq => ?_) (fun r hr9 ih hp M2 v6 v7 v8 L F0 RA RB hq => ?_)
  · have hw9 : fld hp b2 3 3 (vi c2) := by obtain ⟨g, σ, h⟩ := RB; exact h.2.2.2.1
    refine x_iload (pc := 20) dX2_leadAlong_20 rfl ?_
    refine x_aload (pc := 22) dX2_leadAlong_22 rfl ?_
    refine x_gn (pc := 24) dX2_leadAlong_24 fX2_81 hw9 (by omega) ?_
    refine x_icmp_ge (pc := 27) (tgt := 115) dX2_leadAlong_27 (by decide) (by omega) (by omega) (fun c27 => ?_) (fun c27 => ?_)
    · refine x_vret (pc := 115) dX2_leadAlong_115 rfl (hq hp M2 L F0 RA RB Fr.rf (fun x z => by rw [if_neg (by omega)]))
    · exact absurd c27 (by omega)
  · have hw9 : fld hp b2 3 3 (vi c2) := by obtain ⟨g, σ, h⟩ := RB; exact h.2.2.2.1
    refine x_iload (pc := 20) dX2_leadAlong_20 rfl ?_
    refine x_aload (pc := 22) dX2_leadAlong_22 rfl ?_
    refine x_gn (pc := 24) dX2_leadAlong_24 fX2_81 hw9 (by omega) ?_
    refine x_icmp_ge (pc := 27) (tgt := 115) dX2_leadAlong_27 (by decide) (by omega) (by omega) (fun c27 => ?_) (fun c27 => ?_)
    · exact absurd c27 (by omega)
    · refine x_iconst (pc := 30) dX2_leadAlong_30 ?_
      refine x_istore (pc := 31) dX2_leadAlong_31 (by decide) rfl ?_
      show Ex _ _ _ _ _ _ [_, _, _, _, _, _, _, _, _] _ _ _ _
      refine l_la2 hza hz0 hz1 hz2 hk hc1 hw1 hc2 hw2 hM hn hP hd1 hda hd0 (by omega) 0 (by omega) hp M2 _ _ L F0 RA RB (fun h M3 v7 v8 L3 F3 RA3 RB3 f3 e3 => ?_)
      refine x_iinc (pc := 109) dX2_leadAlong_109 rfl (by decide) rfl ?_
      show Ex _ _ _ _ _ _ [_, _, _, _, _, _, _, _, _] _ _ _ _
      refine x_goto (pc := 112) (tgt := 20) dX2_leadAlong_112 (by decide) ?_
      exact ih h M3 _ _ _ L3 F3 RA3 RB3 (fun h4 M4 L4 F4 RA4 RB4 f4 e4 => hq h4 M4 L4 F4 RA4 RB4 (f3.tr f4) (fun x z => by
        rw [e4 x z]
        by_cases e : x = r
        · subst e
          rw [if_neg (by omega), e3 x z]
          by_cases e5 : z < w2
          · rw [if_pos ⟨rfl, by omega, e5⟩, if_pos ⟨by omega, by omega, e5⟩]
          · rw [if_neg (by omega), if_neg (by omega)]
        · rw [e3 x z, if_neg (c := x = r ∧ _) (fun z9 => e z9.1)]
          by_cases e5 : r + 1 ≤ x
          · simp only [e5, show r ≤ x by omega]
          · rw [if_neg (by omega), if_neg (by omega)]))

set_option maxRecDepth 4000 in
theorem t_leadAlong {G : GL} {d : Nat} {hp : HP} {sz : Nat} {b0 a k b1 b2 p : Nat} {s n : Nat → Int} {w : Nat} {M M2 : Nat → Nat → Int} {hd hd2 : Nat → Int} {c1 w1 c2 w2 w3 : Nat} (L : Lay hp a s n w) (F0 : fld hp b0 2 0 (vi p)) (RA : RowsA hp b1 p M hd c1 w1) (RB : RowsA hp b2 p M2 hd2 c2 w2) (hza : a + 2 < sz) (hz0 : b0 < sz) (hz1 : b1 + 6 < sz) (hz2 : b2 + 6 < sz) (hk : k < 7) (hc1 : c1 ≤ 4) (hw1 : w1 ≤ 4) (es : s (k + 1) = w3) (hw3 : w3 ≤ 4) (hM : inP M p) (hn : inL n p) (hP : isP p) (hd1 : b1 + 6 < b2 ∨ b2 + 6 < b1) (hda : a + 2 < b2 ∨ b2 + 6 < a) (hd0 : b0 < b2 ∨ b2 + 6 < b0) : Ct G (d + 2) 0 0 mX2_leadAlong [vr b0, vr a, vi k, vr b1, vr b2] hp sz (Vd (fun h => Fr hp h b2 (b2 + 6) ∧ ∃ M3 hd3, RowsA h b2 p M3 hd3 c1 w3 ∧ (∀ j, j < 8 → hd3 j = -1) ∧ (∀ x z, M3 x z = if x < c1 ∧ z < w3 then (sm w1 (fun i => n (k * 16 + z * 4 + i) * M x i)) % p else M2 x z)) sz) := by
  show Ex _ _ _ _ _ _ [vr b0, vr a, vi k, vr b1, vr b2, vu, vu, vu, vu] _ _ _ _
  have hob2 := RB.ob
  have hw9 : fld hp b1 3 3 (vi c1) := by obtain ⟨g, σ, h⟩ := RA; exact h.2.2.2.1
  obtain ⟨L1, L2, L3, L4, L5⟩ := id L
  refine x_aload (pc := 0) dX2_leadAlong_0 rfl ?_
  refine x_aload_n (pc := 2) dX2_leadAlong_2 rfl ?_
  refine x_gn (pc := 3) dX2_leadAlong_3 fX2_81 (by assumption) (by omega) ?_
  refine x_aload_n (pc := 6) dX2_leadAlong_6 rfl ?_
  refine x_gn (pc := 7) dX2_leadAlong_7 fX2_69 (by assumption) (by omega) ?_
  refine x_iload_n (pc := 10) dX2_leadAlong_10 rfl ?_
  refine x_iconst (pc := 11) dX2_leadAlong_11 ?_
  refine x_iadd (pc := 12) dX2_leadAlong_12 ?_
  refine x_il (pc := 13) (j := k + 1) dX2_leadAlong_13 (by assumption) (by omega) (by omega) (by omega) ?_
  rw [es]
  refine x_p2 (pc := 14) dX2_leadAlong_14 wX3_start iX3_start kX2_78 (by decide) rfl (Nat.le_of_ble_eq_true rfl) (by assumption) (by omega) (t_start RB hz2 (by omega) (by omega)) (fun h14 e14 => ?_)
  obtain ⟨f14, hd3, RB3, e3⟩ := e14
  rw [show min c1 4 = c1 by omega, show min w3 8 = w3 by omega] at RB3
  refine x_iconst (pc := 17) dX2_leadAlong_17 ?_
  refine x_istore (pc := 18) dX2_leadAlong_18 (by decide) rfl ?_
  show Ex _ _ _ _ _ _ [_, _, _, _, _, _, _, _, _] _ _ _ _
  exact l_la1 (d := d + 1) hza hz0 hz1 hz2 hk hc1 hw1 (Nat.le_refl c1) hw3 hM hn hP hd1 hda hd0 0 (by omega) h14 M2 _ _ _ (L.keep (fun x h1 h2 => f14 x (by omega))) (F0.keep (f14 _ (by omega))) (RA.keep (fun x h1 h2 => f14 x (by omega))) RB3 (fun h M3 L3 F3 RA3 RB4 f3 e4 => ⟨rfl, rfl, f14.tr f3, M3, hd3, RB4, e3, fun x z => by rw [e4 x z]; simp only [Nat.zero_le, true_and]⟩)

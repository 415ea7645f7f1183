theorem l_isLed {G : GL} {d : Nat} {hp : HP} {sz : Nat} {q : Nat} {s n : Nat → Int} {w : Nat} (L : Lay hp q s n w) (hz : q + 2 < sz) (hw : w < 128) {a b hi : Nat} (ha : a < 8) (hb : b < 8) (hhi : hi < 8) {Q : Option AV → HP → Nat → Prop} : ∀ k, k ≤ hi → (∀ r : Bool, (r = true ↔ ∀ j, k ≤ j → j < hi → Lw w j = decide (b < a)) → Q (some (vi (bz r))) hp sz) → Ex G (d + 1) 0 0 mX6_isLed 13 [vr q, vi a, vi b, vi hi, vi k] [] hp sz Q := by
  have hoL := L.ob
  refine down (fun hq => ?_) (fun k hk ih hq => ?_)
  · refine x_iload (pc := 13) dX6_isLed_13 rfl ?_
    refine x_iload_n (pc := 15) dX6_isLed_15 rfl ?_
    refine x_icmp_ge (pc := 16) (tgt := 46) dX6_isLed_16 (by decide) (by omega) (by omega) (fun c16 => ?_) (fun c16 => ?_)
    · refine x_iconst (pc := 46) dX6_isLed_46 ?_
      refine x_zret (pc := 47) dX6_isLed_47 rfl (Or.inr rfl) (hq true ⟨fun _ j h1 h2 => absurd h2 (by omega), fun _ => rfl⟩)
    · exact absurd c16 (by omega)
  · refine x_iload (pc := 13) dX6_isLed_13 rfl ?_
    refine x_iload_n (pc := 15) dX6_isLed_15 rfl ?_
    refine x_icmp_ge (pc := 16) (tgt := 46) dX6_isLed_16 (by decide) (by omega) (by omega) (fun c16 => ?_) (fun c16 => ?_)
    · exact absurd c16 (by omega)
    · refine x_aload_n (pc := 19) dX6_isLed_19 rfl ?_
      refine x_iload (pc := 20) dX6_isLed_20 rfl ?_
      refine x_w1 (pc := 22) dX6_isLed_22 wX0_isLeft iX0_isLeft kX6_228 (by decide) rfl (Nat.le_of_ble_eq_true rfl) hoL (by omega) (t_isLeft L hz (by omega) hw) ?_
      refine x_iload_n (pc := 25) dX6_isLed_25 rfl ?_
      refine x_iload_n (pc := 26) dX6_isLed_26 rfl ?_
      refine x_icmp_le (pc := 27) (tgt := 34) dX6_isLed_27 (by decide) (by omega) (by omega) (fun c27 => ?_) (fun c27 => ?_)
      · refine x_iconst (pc := 34) dX6_isLed_34 ?_
        refine x_icmp_eq (pc := 35) (tgt := 40) dX6_isLed_35 (by decide) (bz_rg _) (by omega) (fun c35 => ?_) (fun c35 => ?_)
        · refine x_iinc (pc := 40) dX6_isLed_40 rfl (by decide) rfl ?_
          show Ex _ _ _ _ _ _ [_, _, _, _, _] _ _ _ _
          refine x_goto (pc := 43) (tgt := 13) dX6_isLed_43 (by decide) ?_
          exact ih (fun r hr => hq r (by
            rw [hr]
            constructor
            · intro h j h1 h2
              by_cases e : j = k
              · subst e
                show w.testBit j = decide (b < a)
                first
                  | (rw [show decide (b < a) = true from decide_eq_true (by omega)]; cases hh : w.testBit j; (rw [hh] at c35; exact absurd c35 (by decide)); rfl)
                  | (rw [show decide (b < a) = false from decide_eq_false (by omega)]; cases hh : w.testBit j; rfl; (rw [hh] at c35; exact absurd c35 (by decide)))
              · exact h j (by omega) h2
            · intro h j h1 h2
              exact h j (by omega) h2))
        · refine x_iconst (pc := 38) dX6_isLed_38 ?_
          refine x_zret (pc := 39) dX6_isLed_39 rfl (Or.inl rfl) (hq false ⟨fun h => absurd h (by decide), fun h => by
            have e : w.testBit k = decide (b < a) := h k (Nat.le_refl _) hk
            rw [e] at c35
            first
              | exact absurd (by rw [show decide (b < a) = true from decide_eq_true (by omega)]; rfl) c35
              | exact absurd (by rw [show decide (b < a) = false from decide_eq_false (by omega)]; rfl) c35⟩)
      · refine x_iconst (pc := 30) dX6_isLed_30 ?_
        refine x_goto (pc := 31) (tgt := 35) dX6_isLed_31 (by decide) ?_
        refine x_icmp_eq (pc := 35) (tgt := 40) dX6_isLed_35 (by decide) (bz_rg _) (by omega) (fun c35 => ?_) (fun c35 => ?_)
        · refine x_iinc (pc := 40) dX6_isLed_40 rfl (by decide) rfl ?_
          show Ex _ _ _ _ _ _ [_, _, _, _, _] _ _ _ _
          refine x_goto (pc := 43) (tgt := 13) dX6_isLed_43 (by decide) ?_
          exact ih (fun r hr => hq r (by
            rw [hr]
            constructor
            · intro h j h1 h2
              by_cases e : j = k
              · subst e
                show w.testBit j = decide (b < a)
                first
                  | (rw [show decide (b < a) = true from decide_eq_true (by omega)]; cases hh : w.testBit j; (rw [hh] at c35; exact absurd c35 (by decide)); rfl)
                  | (rw [show decide (b < a) = false from decide_eq_false (by omega)]; cases hh : w.testBit j; rfl; (rw [hh] at c35; exact absurd c35 (by decide)))
              · exact h j (by omega) h2
            · intro h j h1 h2
              exact h j (by omega) h2))
        · refine x_iconst (pc := 38) dX6_isLed_38 ?_
          refine x_zret (pc := 39) dX6_isLed_39 rfl (Or.inl rfl) (hq false ⟨fun h => absurd h (by decide), fun h => by
            have e : w.testBit k = decide (b < a) := h k (Nat.le_refl _) hk
            rw [e] at c35
            first
              | exact absurd (by rw [show decide (b < a) = true from decide_eq_true (by omega)]; rfl) c35
              | exact absurd (by rw [show decide (b < a) = false from decide_eq_false (by omega)]; rfl) c35⟩)

set_option maxRecDepth 4000 in
theorem t_isLed {G : GL} {d : Nat} {hp : HP} {sz : Nat} {q : Nat} {s n : Nat → Int} {w : Nat} (L : Lay hp q s n w) (hz : q + 2 < sz) (hw : w < 128) {a b : Nat} (ha : a < 8) (hb : b < 8) : Ct G (d + 1) 0 0 mX6_isLed [vr q, vi a, vi b] hp sz (Vs (fun v h => h = hp ∧ ∃ r : Bool, v = vi (bz r) ∧ (r = true ↔ ∀ j, min a b ≤ j → j < max a b → Lw w j = decide (b < a))) sz) := by
  show Ex _ _ _ _ _ _ [vr q, vi a, vi b, vu, vu] _ _ _ _
  refine x_iload_n (pc := 0) dX6_isLed_0 rfl ?_
  refine x_iload_n (pc := 1) dX6_isLed_1 rfl ?_
  refine x_t2 (pc := 2) dX6_isLed_2 wJ9_max_7cf53 sJ9_max_7cf53 kX6_23 (by decide) rfl (Nat.le_of_ble_eq_true rfl) (t_max (by omega) (by omega)) ?_
  rw [show max (a : Int) (b : Int) = ((max a b : Nat) : Int) by omega]
  refine x_istore_n (pc := 5) dX6_isLed_5 (by decide) rfl ?_
  show Ex _ _ _ _ _ _ [_, _, _, _, _] _ _ _ _
  refine x_iload_n (pc := 6) dX6_isLed_6 rfl ?_
  refine x_iload_n (pc := 7) dX6_isLed_7 rfl ?_
  refine x_t2 (pc := 8) dX6_isLed_8 wJ9_min_7cf53 sJ9_min_7cf53 kX6_17 (by decide) rfl (Nat.le_of_ble_eq_true rfl) (t_min (by omega) (by omega)) ?_
  rw [show min (a : Int) (b : Int) = ((min a b : Nat) : Int) by omega]
  refine x_istore (pc := 11) dX6_isLed_11 (by decide) rfl ?_
  show Ex _ _ _ _ _ _ [_, _, _, _, _] _ _ _ _
  exact l_isLed L hz hw ha hb (by omega) (min a b) (by omega) (fun r hr => ⟨_, rfl, rfl, rfl, r, rfl, hr⟩)

set_option maxRecDepth 4000 in
theorem t_isMapped {G : GL} {d : Nat} {hp : HP} {sz : Nat} {p N : Nat} (C : ClsA hp p N) (hz : 92 ≤ sz) (hN : 1 ≤ N ∧ N ≤ 8) {u1 e1 u2 e2 : Nat → Int} {c1 c2 : Nat} (S1 : SpA hp 76 u1 e1 c1) (S2 : SpA hp 79 u2 e2 c2) {q : Nat} {s n : Nat → Int} {w : Nat} (L : Lay hp q s n w) (hq9 : q + 2 < sz) (hw : w < 128) {i j a b c e : Nat} (hi : i < 32) (hj : j < 32) (ea : u1 i = a) (eb : e1 i = b) (ec : u2 j = c) (ee : e2 j = e) (hab : a ≤ b ∧ b < 8) (hce : c ≤ e ∧ e < 8) : Ct G (d + 1) 0 0 mX6_isMapped [vr 0, vr q, vi i, vi j] hp sz (Rd (some (vi (bz (vdm (Lw w) a b c e)))) hp sz) := by
  show Ex _ _ _ _ _ _ [vr 0, vr q, vi i, vi j, vu, vu, vu, vu, vu, vu] _ _ _ _
  obtain ⟨C0, C1, C2, C3, C4, C5, C6, C7, C8, C9, g, gA, gB⟩ := id C
  have hob := C0.ob
  obtain ⟨A1, A2, A3, A4, A5⟩ := id S1
  obtain ⟨B1, B2, B3, B4, B5⟩ := id S2
  have hoL := L.ob
  refine x_aload_n (pc := 0) dX6_isMapped_0 rfl ?_
  refine x_gf (pc := 1) dX6_isMapped_1 fX6_61 (by assumption) (by omega) ?_
  refine x_gn (pc := 4) dX6_isMapped_4 fX6_259 (by assumption) (by omega) ?_
  refine x_iload_n (pc := 7) dX6_isMapped_7 rfl ?_
  refine x_il (pc := 8) dX6_isMapped_8 (by assumption) (by omega) rfl (by omega) ?_
  rw [ea]
  refine x_istore (pc := 9) dX6_isMapped_9 (by decide) rfl ?_
  show Ex _ _ _ _ _ _ [_, _, _, _, _, _, _, _, _, _] _ _ _ _
  refine x_aload_n (pc := 11) dX6_isMapped_11 rfl ?_
  refine x_gf (pc := 12) dX6_isMapped_12 fX6_61 (by assumption) (by omega) ?_
  refine x_gn (pc := 15) dX6_isMapped_15 fX6_262 (by assumption) (by omega) ?_
  refine x_iload_n (pc := 18) dX6_isMapped_18 rfl ?_
  refine x_il (pc := 19) dX6_isMapped_19 (by assumption) (by omega) rfl (by omega) ?_
  rw [eb]
  refine x_istore (pc := 20) dX6_isMapped_20 (by decide) rfl ?_
  show Ex _ _ _ _ _ _ [_, _, _, _, _, _, _, _, _, _] _ _ _ _
  refine x_aload_n (pc := 22) dX6_isMapped_22 rfl ?_
  refine x_gf (pc := 23) dX6_isMapped_23 fX6_65 (by assumption) (by omega) ?_
  refine x_gn (pc := 26) dX6_isMapped_26 fX6_259 (by assumption) (by omega) ?_
  refine x_iload_n (pc := 29) dX6_isMapped_29 rfl ?_
  refine x_il (pc := 30) dX6_isMapped_30 (by assumption) (by omega) rfl (by omega) ?_
  rw [ec]
  refine x_istore (pc := 31) dX6_isMapped_31 (by decide) rfl ?_
  show Ex _ _ _ _ _ _ [_, _, _, _, _, _, _, _, _, _] _ _ _ _
  refine x_aload_n (pc := 33) dX6_isMapped_33 rfl ?_
  refine x_gf (pc := 34) dX6_isMapped_34 fX6_65 (by assumption) (by omega) ?_
  refine x_gn (pc := 37) dX6_isMapped_37 fX6_262 (by assumption) (by omega) ?_
  refine x_iload_n (pc := 40) dX6_isMapped_40 rfl ?_
  refine x_il (pc := 41) dX6_isMapped_41 (by assumption) (by omega) rfl (by omega) ?_
  rw [ee]
  refine x_istore (pc := 42) dX6_isMapped_42 (by decide) rfl ?_
  show Ex _ _ _ _ _ _ [_, _, _, _, _, _, _, _, _, _] _ _ _ _
  refine x_iload (pc := 44) dX6_isMapped_44 rfl ?_
  refine x_iload (pc := 46) dX6_isMapped_46 rfl ?_
  refine x_t2 (pc := 48) dX6_isMapped_48 wJ9_max_7cf53 sJ9_max_7cf53 kX6_23 (by decide) rfl (Nat.le_of_ble_eq_true rfl) (t_max (by omega) (by omega)) ?_
  rw [show max (a : Int) (c : Int) = ((max a c : Nat) : Int) by omega]
  refine x_istore (pc := 51) dX6_isMapped_51 (by decide) rfl ?_
  show Ex _ _ _ _ _ _ [_, _, _, _, _, _, _, _, _, _] _ _ _ _
  refine x_iload (pc := 53) dX6_isMapped_53 rfl ?_
  refine x_iload (pc := 55) dX6_isMapped_55 rfl ?_
  refine x_t2 (pc := 57) dX6_isMapped_57 wJ9_min_7cf53 sJ9_min_7cf53 kX6_17 (by decide) rfl (Nat.le_of_ble_eq_true rfl) (t_min (by omega) (by omega)) ?_
  rw [show min (b : Int) (e : Int) = ((min b e : Nat) : Int) by omega]
  refine x_istore (pc := 60) dX6_isMapped_60 (by decide) rfl ?_
  show Ex _ _ _ _ _ _ [_, _, _, _, _, _, _, _, _, _] _ _ _ _
  refine x_iload (pc := 62) dX6_isMapped_62 rfl ?_
  refine x_iload (pc := 64) dX6_isMapped_64 rfl ?_
  refine x_icmp_le (pc := 66) (tgt := 71) dX6_isMapped_66 (by decide) (by omega) (by omega) (fun c66 => ?_) (fun c66 => ?_)
  · refine x_iload (pc := 71) dX6_isMapped_71 rfl ?_
    refine x_iload (pc := 73) dX6_isMapped_73 rfl ?_
    refine x_icmp_eq (pc := 75) (tgt := 103) dX6_isMapped_75 (by decide) (by omega) (by omega) (fun c75 => ?_) (fun c75 => ?_)
    · refine x_iload (pc := 103) dX6_isMapped_103 rfl ?_
      refine x_iload (pc := 105) dX6_isMapped_105 rfl ?_
      refine x_icmp_eq (pc := 107) (tgt := 131) dX6_isMapped_107 (by decide) (by omega) (by omega) (fun c107 => ?_) (fun c107 => ?_)
      · refine x_iconst (pc := 131) dX6_isMapped_131 ?_
        refine x_goto (pc := 132) (tgt := 136) dX6_isMapped_132 (by decide) ?_
        refine x_zret (pc := 136) dX6_isMapped_136 rfl (by omega) (by
          refine ⟨?_, rfl, rfl⟩
          have lowok : a = c ∨ (Lw w (max a c - 1) = true ↔ a < c) := by
            by_cases ac : a = c
            · exact Or.inl ac
            · right
              have z3 : w.testBit (max a c - 1) = Lw w (max a c - 1) := rfl
              first
                | omega
                | (rw [z3] at c98
                   cases hh : Lw w (max a c - 1)
                   · rw [hh] at c98
                     first
                       | exact absurd c98 (by decide)
                       | exact ⟨fun q => absurd q (by decide), fun q => by omega⟩
                   · rw [hh] at c98
                     first
                       | exact absurd c98 (by decide)
                       | exact ⟨fun _ => by omega, fun _ => rfl⟩)
          have z4 : w.testBit (min b e) = Lw w (min b e) := rfl
          first
            | (rw [show vdm (Lw w) a b c e = true from vdm_t.mpr ⟨by omega, lowok, Or.inl (by omega)⟩]; rfl)
            | (rw [z4] at c128
               cases hh : Lw w (min b e)
               · rw [hh] at c128
                 first
                   | exact absurd c128 (by decide)
                   | exact absurd rfl c128
                   | (rw [show vdm (Lw w) a b c e = true from vdm_t.mpr ⟨by omega, lowok, Or.inr ⟨fun q => by rw [hh] at q; exact absurd q (by decide), fun q => by omega⟩⟩]; rfl)
                   | (rw [show vdm (Lw w) a b c e = false from Bool.eq_false_iff.mpr (fun q => by
                        have z5 := (vdm_t.mp q).2.2
                        rcases z5 with z5 | z5
                        · omega
                        · rw [hh] at z5
                          exact absurd (z5.mpr (by omega)) (by decide))]; rfl)
               · rw [hh] at c128
                 first
                   | exact absurd c128 (by decide)
                   | exact absurd rfl c128
                   | (rw [show vdm (Lw w) a b c e = true from vdm_t.mpr ⟨by omega, lowok, Or.inr ⟨fun _ => by omega, fun _ => hh⟩⟩]; rfl)
                   | (rw [show vdm (Lw w) a b c e = false from Bool.eq_false_iff.mpr (fun q => by
                        have z5 := (vdm_t.mp q).2.2
                        rcases z5 with z5 | z5
                        · omega
                        · have := z5.mp hh
                          omega)]; rfl)))
      · refine x_aload_n (pc := 110) dX6_isMapped_110 rfl ?_
        refine x_iload (pc := 111) dX6_isMapped_111 rfl ?_
        have lowok : a = c ∨ (Lw w (max a c - 1) = true ↔ a < c) := by
          by_cases ac : a = c
          · exact Or.inl ac
          · right
            have z3 : w.testBit (max a c - 1) = Lw w (max a c - 1) := rfl
            first
              | omega
              | (rw [z3] at c98
                 cases hh : Lw w (max a c - 1)
                 · rw [hh] at c98
                   first
                     | exact absurd c98 (by decide)
                     | exact ⟨fun q => absurd q (by decide), fun q => by omega⟩
                 · rw [hh] at c98
                   first
                     | exact absurd c98 (by decide)
                     | exact ⟨fun _ => by omega, fun _ => rfl⟩)
        refine x_w1 (pc := 113) dX6_isMapped_113 wX0_isLeft iX0_isLeft kX6_228 (by decide) rfl (Nat.le_of_ble_eq_true rfl) hoL (by omega) (t_isLeft L hq9 (by omega) hw) ?_
        refine x_iload (pc := 116) dX6_isMapped_116 rfl ?_
        refine x_iload (pc := 118) dX6_isMapped_118 rfl ?_
        refine x_icmp_ge (pc := 120) (tgt := 127) dX6_isMapped_120 (by decide) (by omega) (by omega) (fun c120 => ?_) (fun c120 => ?_)
        · refine x_iconst (pc := 127) dX6_isMapped_127 ?_
          refine x_icmp_ne (pc := 128) (tgt := 135) dX6_isMapped_128 (by decide) (bz_rg _) (by omega) (fun c128 => ?_) (fun c128 => ?_)
          · refine x_iconst (pc := 135) dX6_isMapped_135 ?_
            refine x_zret (pc := 136) dX6_isMapped_136 rfl (by omega) (by
              refine ⟨?_, rfl, rfl⟩
              have lowok : a = c ∨ (Lw w (max a c - 1) = true ↔ a < c) := by
                by_cases ac : a = c
                · exact Or.inl ac
                · right
                  have z3 : w.testBit (max a c - 1) = Lw w (max a c - 1) := rfl
                  first
                    | omega
                    | (rw [z3] at c98
                       cases hh : Lw w (max a c - 1)
                       · rw [hh] at c98
                         first
                           | exact absurd c98 (by decide)
                           | exact ⟨fun q => absurd q (by decide), fun q => by omega⟩
                       · rw [hh] at c98
                         first
                           | exact absurd c98 (by decide)
                           | exact ⟨fun _ => by omega, fun _ => rfl⟩)
              have z4 : w.testBit (min b e) = Lw w (min b e) := rfl
              first
                | (rw [show vdm (Lw w) a b c e = true from vdm_t.mpr ⟨by omega, lowok, Or.inl (by omega)⟩]; rfl)
                | (rw [z4] at c128
                   cases hh : Lw w (min b e)
                   · rw [hh] at c128
                     first
                       | exact absurd c128 (by decide)
                       | exact absurd rfl c128
                       | (rw [show vdm (Lw w) a b c e = true from vdm_t.mpr ⟨by omega, lowok, Or.inr ⟨fun q => by rw [hh] at q; exact absurd q (by decide), fun q => by omega⟩⟩]; rfl)
                       | (rw [show vdm (Lw w) a b c e = false from Bool.eq_false_iff.mpr (fun q => by
                            have z5 := (vdm_t.mp q).2.2
                            rcases z5 with z5 | z5
                            · omega
                            · rw [hh] at z5
                              exact absurd (z5.mpr (by omega)) (by decide))]; rfl)
                   · rw [hh] at c128
                     first
                       | exact absurd c128 (by decide)
                       | exact absurd rfl c128
                       | (rw [show vdm (Lw w) a b c e = true from vdm_t.mpr ⟨by omega, lowok, Or.inr ⟨fun _ => by omega, fun _ => hh⟩⟩]; rfl)
                       | (rw [show vdm (Lw w) a b c e = false from Bool.eq_false_iff.mpr (fun q => by
                            have z5 := (vdm_t.mp q).2.2
                            rcases z5 with z5 | z5
                            · omega
                            · have := z5.mp hh
                              omega)]; rfl)))
          · refine x_iconst (pc := 131) dX6_isMapped_131 ?_
            refine x_goto (pc := 132) (tgt := 136) dX6_isMapped_132 (by decide) ?_
            refine x_zret (pc := 136) dX6_isMapped_136 rfl (by omega) (by
              refine ⟨?_, rfl, rfl⟩
              have lowok : a = c ∨ (Lw w (max a c - 1) = true ↔ a < c) := by
                by_cases ac : a = c
                · exact Or.inl ac
                · right
                  have z3 : w.testBit (max a c - 1) = Lw w (max a c - 1) := rfl
                  first
                    | omega
                    | (rw [z3] at c98
                       cases hh : Lw w (max a c - 1)
                       · rw [hh] at c98
                         first
                           | exact absurd c98 (by decide)
                           | exact ⟨fun q => absurd q (by decide), fun q => by omega⟩
                       · rw [hh] at c98
                         first
                           | exact absurd c98 (by decide)
                           | exact ⟨fun _ => by omega, fun _ => rfl⟩)
              have z4 : w.testBit (min b e) = Lw w (min b e) := rfl
              first
                | (rw [show vdm (Lw w) a b c e = true from vdm_t.mpr ⟨by omega, lowok, Or.inl (by omega)⟩]; rfl)
                | (rw [z4] at c128
                   cases hh : Lw w (min b e)
                   · rw [hh] at c128
                     first
                       | exact absurd c128 (by decide)
                       | exact absurd rfl c128
                       | (rw [show vdm (Lw w) a b c e = true from vdm_t.mpr ⟨by omega, lowok, Or.inr ⟨fun q => by rw [hh] at q; exact absurd q (by decide), fun q => by omega⟩⟩]; rfl)
                       | (rw [show vdm (Lw w) a b c e = false from Bool.eq_false_iff.mpr (fun q => by
                            have z5 := (vdm_t.mp q).2.2
                            rcases z5 with z5 | z5
                            · omega
                            · rw [hh] at z5
                              exact absurd (z5.mpr (by omega)) (by decide))]; rfl)
                   · rw [hh] at c128
                     first
                       | exact absurd c128 (by decide)
                       | exact absurd rfl c128
                       | (rw [show vdm (Lw w) a b c e = true from vdm_t.mpr ⟨by omega, lowok, Or.inr ⟨fun _ => by omega, fun _ => hh⟩⟩]; rfl)
                       | (rw [show vdm (Lw w) a b c e = false from Bool.eq_false_iff.mpr (fun q => by
                            have z5 := (vdm_t.mp q).2.2
                            rcases z5 with z5 | z5
                            · omega
                            · have := z5.mp hh
                              omega)]; rfl)))
        · refine x_iconst (pc := 123) dX6_isMapped_123 ?_
          refine x_goto (pc := 124) (tgt := 128) dX6_isMapped_124 (by decide) ?_
          refine x_icmp_ne (pc := 128) (tgt := 135) dX6_isMapped_128 (by decide) (bz_rg _) (by omega) (fun c128 => ?_) (fun c128 => ?_)
          · refine x_iconst (pc := 135) dX6_isMapped_135 ?_
            refine x_zret (pc := 136) dX6_isMapped_136 rfl (by omega) (by
              refine ⟨?_, rfl, rfl⟩
              have lowok : a = c ∨ (Lw w (max a c - 1) = true ↔ a < c) := by
                by_cases ac : a = c
                · exact Or.inl ac
                · right
                  have z3 : w.testBit (max a c - 1) = Lw w (max a c - 1) := rfl
                  first
                    | omega
                    | (rw [z3] at c98
                       cases hh : Lw w (max a c - 1)
                       · rw [hh] at c98
                         first
                           | exact absurd c98 (by decide)
                           | exact ⟨fun q => absurd q (by decide), fun q => by omega⟩
                       · rw [hh] at c98
                         first
                           | exact absurd c98 (by decide)
                           | exact ⟨fun _ => by omega, fun _ => rfl⟩)
              have z4 : w.testBit (min b e) = Lw w (min b e) := rfl
              first
                | (rw [show vdm (Lw w) a b c e = true from vdm_t.mpr ⟨by omega, lowok, Or.inl (by omega)⟩]; rfl)
                | (rw [z4] at c128
                   cases hh : Lw w (min b e)
                   · rw [hh] at c128
                     first
                       | exact absurd c128 (by decide)
                       | exact absurd rfl c128
                       | (rw [show vdm (Lw w) a b c e = true from vdm_t.mpr ⟨by omega, lowok, Or.inr ⟨fun q => by rw [hh] at q; exact absurd q (by decide), fun q => by omega⟩⟩]; rfl)
                       | (rw [show vdm (Lw w) a b c e = false from Bool.eq_false_iff.mpr (fun q => by
                            have z5 := (vdm_t.mp q).2.2
                            rcases z5 with z5 | z5
                            · omega
                            · rw [hh] at z5
                              exact absurd (z5.mpr (by omega)) (by decide))]; rfl)
                   · rw [hh] at c128
                     first
                       | exact absurd c128 (by decide)
                       | exact absurd rfl c128
                       | (rw [show vdm (Lw w) a b c e = true from vdm_t.mpr ⟨by omega, lowok, Or.inr ⟨fun _ => by omega, fun _ => hh⟩⟩]; rfl)
                       | (rw [show vdm (Lw w) a b c e = false from Bool.eq_false_iff.mpr (fun q => by
                            have z5 := (vdm_t.mp q).2.2
                            rcases z5 with z5 | z5
                            · omega
                            · have := z5.mp hh
                              omega)]; rfl)))
          · refine x_iconst (pc := 131) dX6_isMapped_131 ?_
            refine x_goto (pc := 132) (tgt := 136) dX6_isMapped_132 (by decide) ?_
            refine x_zret (pc := 136) dX6_isMapped_136 rfl (by omega) (by
              refine ⟨?_, rfl, rfl⟩
              have lowok : a = c ∨ (Lw w (max a c - 1) = true ↔ a < c) := by
                by_cases ac : a = c
                · exact Or.inl ac
                · right
                  have z3 : w.testBit (max a c - 1) = Lw w (max a c - 1) := rfl
                  first
                    | omega
                    | (rw [z3] at c98
                       cases hh : Lw w (max a c - 1)
                       · rw [hh] at c98
                         first
                           | exact absurd c98 (by decide)
                           | exact ⟨fun q => absurd q (by decide), fun q => by omega⟩
                       · rw [hh] at c98
                         first
                           | exact absurd c98 (by decide)
                           | exact ⟨fun _ => by omega, fun _ => rfl⟩)
              have z4 : w.testBit (min b e) = Lw w (min b e) := rfl
              first
                | (rw [show vdm (Lw w) a b c e = true from vdm_t.mpr ⟨by omega, lowok, Or.inl (by omega)⟩]; rfl)
                | (rw [z4] at c128
                   cases hh : Lw w (min b e)
                   · rw [hh] at c128
                     first
                       | exact absurd c128 (by decide)
                       | exact absurd rfl c128
                       | (rw [show vdm (Lw w) a b c e = true from vdm_t.mpr ⟨by omega, lowok, Or.inr ⟨fun q => by rw [hh] at q; exact absurd q (by decide), fun q => by omega⟩⟩]; rfl)
                       | (rw [show vdm (Lw w) a b c e = false from Bool.eq_false_iff.mpr (fun q => by
                            have z5 := (vdm_t.mp q).2.2
                            rcases z5 with z5 | z5
                            · omega
                            · rw [hh] at z5
                              exact absurd (z5.mpr (by omega)) (by decide))]; rfl)
                   · rw [hh] at c128
                     first
                       | exact absurd c128 (by decide)
                       | exact absurd rfl c128
                       | (rw [show vdm (Lw w) a b c e = true from vdm_t.mpr ⟨by omega, lowok, Or.inr ⟨fun _ => by omega, fun _ => hh⟩⟩]; rfl)
                       | (rw [show vdm (Lw w) a b c e = false from Bool.eq_false_iff.mpr (fun q => by
                            have z5 := (vdm_t.mp q).2.2
                            rcases z5 with z5 | z5
                            · omega
                            · have := z5.mp hh
                              omega)]; rfl)))
    · refine x_aload_n (pc := 78) dX6_isMapped_78 rfl ?_
      refine x_iload (pc := 79) dX6_isMapped_79 rfl ?_
      refine x_iconst (pc := 81) dX6_isMapped_81 ?_
      refine x_isub (pc := 82) dX6_isMapped_82 ?_
      rw [show ((max a c : Nat) : Int) - 1 = ((max a c - 1 : Nat) : Int) by omega]
      refine x_w1 (pc := 83) dX6_isMapped_83 wX0_isLeft iX0_isLeft kX6_228 (by decide) rfl (Nat.le_of_ble_eq_true rfl) hoL (by omega) (t_isLeft L hq9 (by omega) hw) ?_
      refine x_iload (pc := 86) dX6_isMapped_86 rfl ?_
      refine x_iload (pc := 88) dX6_isMapped_88 rfl ?_
      refine x_icmp_ge (pc := 90) (tgt := 97) dX6_isMapped_90 (by decide) (by omega) (by omega) (fun c90 => ?_) (fun c90 => ?_)
      · refine x_iconst (pc := 97) dX6_isMapped_97 ?_
        refine x_icmp_eq (pc := 98) (tgt := 103) dX6_isMapped_98 (by decide) (bz_rg _) (by omega) (fun c98 => ?_) (fun c98 => ?_)
        · refine x_iload (pc := 103) dX6_isMapped_103 rfl ?_
          refine x_iload (pc := 105) dX6_isMapped_105 rfl ?_
          refine x_icmp_eq (pc := 107) (tgt := 131) dX6_isMapped_107 (by decide) (by omega) (by omega) (fun c107 => ?_) (fun c107 => ?_)
          · refine x_iconst (pc := 131) dX6_isMapped_131 ?_
            refine x_goto (pc := 132) (tgt := 136) dX6_isMapped_132 (by decide) ?_
            refine x_zret (pc := 136) dX6_isMapped_136 rfl (by omega) (by
              refine ⟨?_, rfl, rfl⟩
              have lowok : a = c ∨ (Lw w (max a c - 1) = true ↔ a < c) := by
                by_cases ac : a = c
                · exact Or.inl ac
                · right
                  have z3 : w.testBit (max a c - 1) = Lw w (max a c - 1) := rfl
                  first
                    | omega
                    | (rw [z3] at c98
                       cases hh : Lw w (max a c - 1)
                       · rw [hh] at c98
                         first
                           | exact absurd c98 (by decide)
                           | exact ⟨fun q => absurd q (by decide), fun q => by omega⟩
                       · rw [hh] at c98
                         first
                           | exact absurd c98 (by decide)
                           | exact ⟨fun _ => by omega, fun _ => rfl⟩)
              have z4 : w.testBit (min b e) = Lw w (min b e) := rfl
              first
                | (rw [show vdm (Lw w) a b c e = true from vdm_t.mpr ⟨by omega, lowok, Or.inl (by omega)⟩]; rfl)
                | (rw [z4] at c128
                   cases hh : Lw w (min b e)
                   · rw [hh] at c128
                     first
                       | exact absurd c128 (by decide)
                       | exact absurd rfl c128
                       | (rw [show vdm (Lw w) a b c e = true from vdm_t.mpr ⟨by omega, lowok, Or.inr ⟨fun q => by rw [hh] at q; exact absurd q (by decide), fun q => by omega⟩⟩]; rfl)
                       | (rw [show vdm (Lw w) a b c e = false from Bool.eq_false_iff.mpr (fun q => by
                            have z5 := (vdm_t.mp q).2.2
                            rcases z5 with z5 | z5
                            · omega
                            · rw [hh] at z5
                              exact absurd (z5.mpr (by omega)) (by decide))]; rfl)
                   · rw [hh] at c128
                     first
                       | exact absurd c128 (by decide)
                       | exact absurd rfl c128
                       | (rw [show vdm (Lw w) a b c e = true from vdm_t.mpr ⟨by omega, lowok, Or.inr ⟨fun _ => by omega, fun _ => hh⟩⟩]; rfl)
                       | (rw [show vdm (Lw w) a b c e = false from Bool.eq_false_iff.mpr (fun q => by
                            have z5 := (vdm_t.mp q).2.2
                            rcases z5 with z5 | z5
                            · omega
                            · have := z5.mp hh
                              omega)]; rfl)))
          · refine x_aload_n (pc := 110) dX6_isMapped_110 rfl ?_
            refine x_iload (pc := 111) dX6_isMapped_111 rfl ?_
            have lowok : a = c ∨ (Lw w (max a c - 1) = true ↔ a < c) := by
              by_cases ac : a = c
              · exact Or.inl ac
              · right
                have z3 : w.testBit (max a c - 1) = Lw w (max a c - 1) := rfl
                first
                  | omega
                  | (rw [z3] at c98
                     cases hh : Lw w (max a c - 1)
                     · rw [hh] at c98
                       first
                         | exact absurd c98 (by decide)
                         | exact ⟨fun q => absurd q (by decide), fun q => by omega⟩
                     · rw [hh] at c98
                       first
                         | exact absurd c98 (by decide)
                         | exact ⟨fun _ => by omega, fun _ => rfl⟩)
            refine x_w1 (pc := 113) dX6_isMapped_113 wX0_isLeft iX0_isLeft kX6_228 (by decide) rfl (Nat.le_of_ble_eq_true rfl) hoL (by omega) (t_isLeft L hq9 (by omega) hw) ?_
            refine x_iload (pc := 116) dX6_isMapped_116 rfl ?_
            refine x_iload (pc := 118) dX6_isMapped_118 rfl ?_
            refine x_icmp_ge (pc := 120) (tgt := 127) dX6_isMapped_120 (by decide) (by omega) (by omega) (fun c120 => ?_) (fun c120 => ?_)
            · refine x_iconst (pc := 127) dX6_isMapped_127 ?_
              refine x_icmp_ne (pc := 128) (tgt := 135) dX6_isMapped_128 (by decide) (bz_rg _) (by omega) (fun c128 => ?_) (fun c128 => ?_)
              · refine x_iconst (pc := 135) dX6_isMapped_135 ?_
                refine x_zret (pc := 136) dX6_isMapped_136 rfl (by omega) (by
                  refine ⟨?_, rfl, rfl⟩
                  have lowok : a = c ∨ (Lw w (max a c - 1) = true ↔ a < c) := by
                    by_cases ac : a = c
                    · exact Or.inl ac
                    · right
                      have z3 : w.testBit (max a c - 1) = Lw w (max a c - 1) := rfl
                      first
                        | omega
                        | (rw [z3] at c98
                           cases hh : Lw w (max a c - 1)
                           · rw [hh] at c98
                             first
                               | exact absurd c98 (by decide)
                               | exact ⟨fun q => absurd q (by decide), fun q => by omega⟩
                           · rw [hh] at c98
                             first
                               | exact absurd c98 (by decide)
                               | exact ⟨fun _ => by omega, fun _ => rfl⟩)
                  have z4 : w.testBit (min b e) = Lw w (min b e) := rfl
                  first
                    | (rw [show vdm (Lw w) a b c e = true from vdm_t.mpr ⟨by omega, lowok, Or.inl (by omega)⟩]; rfl)
                    | (rw [z4] at c128
                       cases hh : Lw w (min b e)
                       · rw [hh] at c128
                         first
                           | exact absurd c128 (by decide)
                           | exact absurd rfl c128
                           | (rw [show vdm (Lw w) a b c e = true from vdm_t.mpr ⟨by omega, lowok, Or.inr ⟨fun q => by rw [hh] at q; exact absurd q (by decide), fun q => by omega⟩⟩]; rfl)
                           | (rw [show vdm (Lw w) a b c e = false from Bool.eq_false_iff.mpr (fun q => by
                                have z5 := (vdm_t.mp q).2.2
                                rcases z5 with z5 | z5
                                · omega
                                · rw [hh] at z5
                                  exact absurd (z5.mpr (by omega)) (by decide))]; rfl)
                       · rw [hh] at c128
                         first
                           | exact absurd c128 (by decide)
                           | exact absurd rfl c128
                           | (rw [show vdm (Lw w) a b c e = true from vdm_t.mpr ⟨by omega, lowok, Or.inr ⟨fun _ => by omega, fun _ => hh⟩⟩]; rfl)
                           | (rw [show vdm (Lw w) a b c e = false from Bool.eq_false_iff.mpr (fun q => by
                                have z5 := (vdm_t.mp q).2.2
                                rcases z5 with z5 | z5
                                · omega
                                · have := z5.mp hh
                                  omega)]; rfl)))
              · refine x_iconst (pc := 131) dX6_isMapped_131 ?_
                refine x_goto (pc := 132) (tgt := 136) dX6_isMapped_132 (by decide) ?_
                refine x_zret (pc := 136) dX6_isMapped_136 rfl (by omega) (by
                  refine ⟨?_, rfl, rfl⟩
                  have lowok : a = c ∨ (Lw w (max a c - 1) = true ↔ a < c) := by
                    by_cases ac : a = c
                    · exact Or.inl ac
                    · right
                      have z3 : w.testBit (max a c - 1) = Lw w (max a c - 1) := rfl
                      first
                        | omega
                        | (rw [z3] at c98
                           cases hh : Lw w (max a c - 1)
                           · rw [hh] at c98
                             first
                               | exact absurd c98 (by decide)
                               | exact ⟨fun q => absurd q (by decide), fun q => by omega⟩
                           · rw [hh] at c98
                             first
                               | exact absurd c98 (by decide)
                               | exact ⟨fun _ => by omega, fun _ => rfl⟩)
                  have z4 : w.testBit (min b e) = Lw w (min b e) := rfl
                  first
                    | (rw [show vdm (Lw w) a b c e = true from vdm_t.mpr ⟨by omega, lowok, Or.inl (by omega)⟩]; rfl)
                    | (rw [z4] at c128
                       cases hh : Lw w (min b e)
                       · rw [hh] at c128
                         first
                           | exact absurd c128 (by decide)
                           | exact absurd rfl c128
                           | (rw [show vdm (Lw w) a b c e = true from vdm_t.mpr ⟨by omega, lowok, Or.inr ⟨fun q => by rw [hh] at q; exact absurd q (by decide), fun q => by omega⟩⟩]; rfl)
                           | (rw [show vdm (Lw w) a b c e = false from Bool.eq_false_iff.mpr (fun q => by
                                have z5 := (vdm_t.mp q).2.2
                                rcases z5 with z5 | z5
                                · omega
                                · rw [hh] at z5
                                  exact absurd (z5.mpr (by omega)) (by decide))]; rfl)
                       · rw [hh] at c128
                         first
                           | exact absurd c128 (by decide)
                           | exact absurd rfl c128
                           | (rw [show vdm (Lw w) a b c e = true from vdm_t.mpr ⟨by omega, lowok, Or.inr ⟨fun _ => by omega, fun _ => hh⟩⟩]; rfl)
                           | (rw [show vdm (Lw w) a b c e = false from Bool.eq_false_iff.mpr (fun q => by
                                have z5 := (vdm_t.mp q).2.2
                                rcases z5 with z5 | z5
                                · omega
                                · have := z5.mp hh
                                  omega)]; rfl)))
            · refine x_iconst (pc := 123) dX6_isMapped_123 ?_
              refine x_goto (pc := 124) (tgt := 128) dX6_isMapped_124 (by decide) ?_
              refine x_icmp_ne (pc := 128) (tgt := 135) dX6_isMapped_128 (by decide) (bz_rg _) (by omega) (fun c128 => ?_) (fun c128 => ?_)
              · refine x_iconst (pc := 135) dX6_isMapped_135 ?_
                refine x_zret (pc := 136) dX6_isMapped_136 rfl (by omega) (by
                  refine ⟨?_, rfl, rfl⟩
                  have lowok : a = c ∨ (Lw w (max a c - 1) = true ↔ a < c) := by
                    by_cases ac : a = c
                    · exact Or.inl ac
                    · right
                      have z3 : w.testBit (max a c - 1) = Lw w (max a c - 1) := rfl
                      first
                        | omega
                        | (rw [z3] at c98
                           cases hh : Lw w (max a c - 1)
                           · rw [hh] at c98
                             first
                               | exact absurd c98 (by decide)
                               | exact ⟨fun q => absurd q (by decide), fun q => by omega⟩
                           · rw [hh] at c98
                             first
                               | exact absurd c98 (by decide)
                               | exact ⟨fun _ => by omega, fun _ => rfl⟩)
                  have z4 : w.testBit (min b e) = Lw w (min b e) := rfl
                  first
                    | (rw [show vdm (Lw w) a b c e = true from vdm_t.mpr ⟨by omega, lowok, Or.inl (by omega)⟩]; rfl)
                    | (rw [z4] at c128
                       cases hh : Lw w (min b e)
                       · rw [hh] at c128
                         first
                           | exact absurd c128 (by decide)
                           | exact absurd rfl c128
                           | (rw [show vdm (Lw w) a b c e = true from vdm_t.mpr ⟨by omega, lowok, Or.inr ⟨fun q => by rw [hh] at q; exact absurd q (by decide), fun q => by omega⟩⟩]; rfl)
                           | (rw [show vdm (Lw w) a b c e = false from Bool.eq_false_iff.mpr (fun q => by
                                have z5 := (vdm_t.mp q).2.2
                                rcases z5 with z5 | z5
                                · omega
                                · rw [hh] at z5
                                  exact absurd (z5.mpr (by omega)) (by decide))]; rfl)
                       · rw [hh] at c128
                         first
                           | exact absurd c128 (by decide)
                           | exact absurd rfl c128
                           | (rw [show vdm (Lw w) a b c e = true from vdm_t.mpr ⟨by omega, lowok, Or.inr ⟨fun _ => by omega, fun _ => hh⟩⟩]; rfl)
                           | (rw [show vdm (Lw w) a b c e = false from Bool.eq_false_iff.mpr (fun q => by
                                have z5 := (vdm_t.mp q).2.2
                                rcases z5 with z5 | z5
                                · omega
                                · have := z5.mp hh
                                  omega)]; rfl)))
              · refine x_iconst (pc := 131) dX6_isMapped_131 ?_
                refine x_goto (pc := 132) (tgt := 136) dX6_isMapped_132 (by decide) ?_
                refine x_zret (pc := 136) dX6_isMapped_136 rfl (by omega) (by
                  refine ⟨?_, rfl, rfl⟩
                  have lowok : a = c ∨ (Lw w (max a c - 1) = true ↔ a < c) := by
                    by_cases ac : a = c
                    · exact Or.inl ac
                    · right
                      have z3 : w.testBit (max a c - 1) = Lw w (max a c - 1) := rfl
                      first
                        | omega
                        | (rw [z3] at c98
                           cases hh : Lw w (max a c - 1)
                           · rw [hh] at c98
                             first
                               | exact absurd c98 (by decide)
                               | exact ⟨fun q => absurd q (by decide), fun q => by omega⟩
                           · rw [hh] at c98
                             first
                               | exact absurd c98 (by decide)
                               | exact ⟨fun _ => by omega, fun _ => rfl⟩)
                  have z4 : w.testBit (min b e) = Lw w (min b e) := rfl
                  first
                    | (rw [show vdm (Lw w) a b c e = true from vdm_t.mpr ⟨by omega, lowok, Or.inl (by omega)⟩]; rfl)
                    | (rw [z4] at c128
                       cases hh : Lw w (min b e)
                       · rw [hh] at c128
                         first
                           | exact absurd c128 (by decide)
                           | exact absurd rfl c128
                           | (rw [show vdm (Lw w) a b c e = true from vdm_t.mpr ⟨by omega, lowok, Or.inr ⟨fun q => by rw [hh] at q; exact absurd q (by decide), fun q => by omega⟩⟩]; rfl)
                           | (rw [show vdm (Lw w) a b c e = false from Bool.eq_false_iff.mpr (fun q => by
                                have z5 := (vdm_t.mp q).2.2
                                rcases z5 with z5 | z5
                                · omega
                                · rw [hh] at z5
                                  exact absurd (z5.mpr (by omega)) (by decide))]; rfl)
                       · rw [hh] at c128
                         first
                           | exact absurd c128 (by decide)
                           | exact absurd rfl c128
                           | (rw [show vdm (Lw w) a b c e = true from vdm_t.mpr ⟨by omega, lowok, Or.inr ⟨fun _ => by omega, fun _ => hh⟩⟩]; rfl)
                           | (rw [show vdm (Lw w) a b c e = false from Bool.eq_false_iff.mpr (fun q => by
                                have z5 := (vdm_t.mp q).2.2
                                rcases z5 with z5 | z5
                                · omega
                                · have := z5.mp hh
                                  omega)]; rfl)))
        · refine x_iconst (pc := 101) dX6_isMapped_101 ?_
          refine x_zret (pc := 102) dX6_isMapped_102 rfl (by omega) (by
            refine ⟨?_, rfl, rfl⟩
            rw [show vdm (Lw w) a b c e = false from Bool.eq_false_iff.mpr (fun q => ?_)]; rfl
            have z := (vdm_t.mp q).2.1
            have z2 : Lw w (max a c - 1) = true ↔ a < c := z.resolve_left (by omega)
            have z3 : w.testBit (max a c - 1) = Lw w (max a c - 1) := rfl
            rw [z3] at c98
            cases hh : Lw w (max a c - 1)
            · rw [hh] at c98 z2
              first
                | exact absurd rfl c98
                | exact absurd (z2.mpr (by omega)) (by decide)
            · rw [hh] at c98 z2
              first
                | exact absurd rfl c98
                | (have := z2.mp rfl; omega))
      · refine x_iconst (pc := 93) dX6_isMapped_93 ?_
        refine x_goto (pc := 94) (tgt := 98) dX6_isMapped_94 (by decide) ?_
        refine x_icmp_eq (pc := 98) (tgt := 103) dX6_isMapped_98 (by decide) (bz_rg _) (by omega) (fun c98 => ?_) (fun c98 => ?_)
        · refine x_iload (pc := 103) dX6_isMapped_103 rfl ?_
          refine x_iload (pc := 105) dX6_isMapped_105 rfl ?_
          refine x_icmp_eq (pc := 107) (tgt := 131) dX6_isMapped_107 (by decide) (by omega) (by omega) (fun c107 => ?_) (fun c107 => ?_)
          · refine x_iconst (pc := 131) dX6_isMapped_131 ?_
            refine x_goto (pc := 132) (tgt := 136) dX6_isMapped_132 (by decide) ?_
            refine x_zret (pc := 136) dX6_isMapped_136 rfl (by omega) (by
              refine ⟨?_, rfl, rfl⟩
              have lowok : a = c ∨ (Lw w (max a c - 1) = true ↔ a < c) := by
                by_cases ac : a = c
                · exact Or.inl ac
                · right
                  have z3 : w.testBit (max a c - 1) = Lw w (max a c - 1) := rfl
                  first
                    | omega
                    | (rw [z3] at c98
                       cases hh : Lw w (max a c - 1)
                       · rw [hh] at c98
                         first
                           | exact absurd c98 (by decide)
                           | exact ⟨fun q => absurd q (by decide), fun q => by omega⟩
                       · rw [hh] at c98
                         first
                           | exact absurd c98 (by decide)
                           | exact ⟨fun _ => by omega, fun _ => rfl⟩)
              have z4 : w.testBit (min b e) = Lw w (min b e) := rfl
              first
                | (rw [show vdm (Lw w) a b c e = true from vdm_t.mpr ⟨by omega, lowok, Or.inl (by omega)⟩]; rfl)
                | (rw [z4] at c128
                   cases hh : Lw w (min b e)
                   · rw [hh] at c128
                     first
                       | exact absurd c128 (by decide)
                       | exact absurd rfl c128
                       | (rw [show vdm (Lw w) a b c e = true from vdm_t.mpr ⟨by omega, lowok, Or.inr ⟨fun q => by rw [hh] at q; exact absurd q (by decide), fun q => by omega⟩⟩]; rfl)
                       | (rw [show vdm (Lw w) a b c e = false from Bool.eq_false_iff.mpr (fun q => by
                            have z5 := (vdm_t.mp q).2.2
                            rcases z5 with z5 | z5
                            · omega
                            · rw [hh] at z5
                              exact absurd (z5.mpr (by omega)) (by decide))]; rfl)
                   · rw [hh] at c128
                     first
                       | exact absurd c128 (by decide)
                       | exact absurd rfl c128
                       | (rw [show vdm (Lw w) a b c e = true from vdm_t.mpr ⟨by omega, lowok, Or.inr ⟨fun _ => by omega, fun _ => hh⟩⟩]; rfl)
                       | (rw [show vdm (Lw w) a b c e = false from Bool.eq_false_iff.mpr (fun q => by
                            have z5 := (vdm_t.mp q).2.2
                            rcases z5 with z5 | z5
                            · omega
                            · have := z5.mp hh
                              omega)]; rfl)))
          · refine x_aload_n (pc := 110) dX6_isMapped_110 rfl ?_
            refine x_iload (pc := 111) dX6_isMapped_111 rfl ?_
            have lowok : a = c ∨ (Lw w (max a c - 1) = true ↔ a < c) := by
              by_cases ac : a = c
              · exact Or.inl ac
              · right
                have z3 : w.testBit (max a c - 1) = Lw w (max a c - 1) := rfl
                first
                  | omega
                  | (rw [z3] at c98
                     cases hh : Lw w (max a c - 1)
                     · rw [hh] at c98
                       first
                         | exact absurd c98 (by decide)
                         | exact ⟨fun q => absurd q (by decide), fun q => by omega⟩
                     · rw [hh] at c98
                       first
                         | exact absurd c98 (by decide)
                         | exact ⟨fun _ => by omega, fun _ => rfl⟩)
            refine x_w1 (pc := 113) dX6_isMapped_113 wX0_isLeft iX0_isLeft kX6_228 (by decide) rfl (Nat.le_of_ble_eq_true rfl) hoL (by omega) (t_isLeft L hq9 (by omega) hw) ?_
            refine x_iload (pc := 116) dX6_isMapped_116 rfl ?_
            refine x_iload (pc := 118) dX6_isMapped_118 rfl ?_
            refine x_icmp_ge (pc := 120) (tgt := 127) dX6_isMapped_120 (by decide) (by omega) (by omega) (fun c120 => ?_) (fun c120 => ?_)
            · refine x_iconst (pc := 127) dX6_isMapped_127 ?_
              refine x_icmp_ne (pc := 128) (tgt := 135) dX6_isMapped_128 (by decide) (bz_rg _) (by omega) (fun c128 => ?_) (fun c128 => ?_)
              · refine x_iconst (pc := 135) dX6_isMapped_135 ?_
                refine x_zret (pc := 136) dX6_isMapped_136 rfl (by omega) (by
                  refine ⟨?_, rfl, rfl⟩
                  have lowok : a = c ∨ (Lw w (max a c - 1) = true ↔ a < c) := by
                    by_cases ac : a = c
                    · exact Or.inl ac
                    · right
                      have z3 : w.testBit (max a c - 1) = Lw w (max a c - 1) := rfl
                      first
                        | omega
                        | (rw [z3] at c98
                           cases hh : Lw w (max a c - 1)
                           · rw [hh] at c98
                             first
                               | exact absurd c98 (by decide)
                               | exact ⟨fun q => absurd q (by decide), fun q => by omega⟩
                           · rw [hh] at c98
                             first
                               | exact absurd c98 (by decide)
                               | exact ⟨fun _ => by omega, fun _ => rfl⟩)
                  have z4 : w.testBit (min b e) = Lw w (min b e) := rfl
                  first
                    | (rw [show vdm (Lw w) a b c e = true from vdm_t.mpr ⟨by omega, lowok, Or.inl (by omega)⟩]; rfl)
                    | (rw [z4] at c128
                       cases hh : Lw w (min b e)
                       · rw [hh] at c128
                         first
                           | exact absurd c128 (by decide)
                           | exact absurd rfl c128
                           | (rw [show vdm (Lw w) a b c e = true from vdm_t.mpr ⟨by omega, lowok, Or.inr ⟨fun q => by rw [hh] at q; exact absurd q (by decide), fun q => by omega⟩⟩]; rfl)
                           | (rw [show vdm (Lw w) a b c e = false from Bool.eq_false_iff.mpr (fun q => by
                                have z5 := (vdm_t.mp q).2.2
                                rcases z5 with z5 | z5
                                · omega
                                · rw [hh] at z5
                                  exact absurd (z5.mpr (by omega)) (by decide))]; rfl)
                       · rw [hh] at c128
                         first
                           | exact absurd c128 (by decide)
                           | exact absurd rfl c128
                           | (rw [show vdm (Lw w) a b c e = true from vdm_t.mpr ⟨by omega, lowok, Or.inr ⟨fun _ => by omega, fun _ => hh⟩⟩]; rfl)
                           | (rw [show vdm (Lw w) a b c e = false from Bool.eq_false_iff.mpr (fun q => by
                                have z5 := (vdm_t.mp q).2.2
                                rcases z5 with z5 | z5
                                · omega
                                · have := z5.mp hh
                                  omega)]; rfl)))
              · refine x_iconst (pc := 131) dX6_isMapped_131 ?_
                refine x_goto (pc := 132) (tgt := 136) dX6_isMapped_132 (by decide) ?_
                refine x_zret (pc := 136) dX6_isMapped_136 rfl (by omega) (by
                  refine ⟨?_, rfl, rfl⟩
                  have lowok : a = c ∨ (Lw w (max a c - 1) = true ↔ a < c) := by
                    by_cases ac : a = c
                    · exact Or.inl ac
                    · right
                      have z3 : w.testBit (max a c - 1) = Lw w (max a c - 1) := rfl
                      first
                        | omega
                        | (rw [z3] at c98
                           cases hh : Lw w (max a c - 1)
                           · rw [hh] at c98
                             first
                               | exact absurd c98 (by decide)
                               | exact ⟨fun q => absurd q (by decide), fun q => by omega⟩
                           · rw [hh] at c98
                             first
                               | exact absurd c98 (by decide)
                               | exact ⟨fun _ => by omega, fun _ => rfl⟩)
                  have z4 : w.testBit (min b e) = Lw w (min b e) := rfl
                  first
                    | (rw [show vdm (Lw w) a b c e = true from vdm_t.mpr ⟨by omega, lowok, Or.inl (by omega)⟩]; rfl)
                    | (rw [z4] at c128
                       cases hh : Lw w (min b e)
                       · rw [hh] at c128
                         first
                           | exact absurd c128 (by decide)
                           | exact absurd rfl c128
                           | (rw [show vdm (Lw w) a b c e = true from vdm_t.mpr ⟨by omega, lowok, Or.inr ⟨fun q => by rw [hh] at q; exact absurd q (by decide), fun q => by omega⟩⟩]; rfl)
                           | (rw [show vdm (Lw w) a b c e = false from Bool.eq_false_iff.mpr (fun q => by
                                have z5 := (vdm_t.mp q).2.2
                                rcases z5 with z5 | z5
                                · omega
                                · rw [hh] at z5
                                  exact absurd (z5.mpr (by omega)) (by decide))]; rfl)
                       · rw [hh] at c128
                         first
                           | exact absurd c128 (by decide)
                           | exact absurd rfl c128
                           | (rw [show vdm (Lw w) a b c e = true from vdm_t.mpr ⟨by omega, lowok, Or.inr ⟨fun _ => by omega, fun _ => hh⟩⟩]; rfl)
                           | (rw [show vdm (Lw w) a b c e = false from Bool.eq_false_iff.mpr (fun q => by
                                have z5 := (vdm_t.mp q).2.2
                                rcases z5 with z5 | z5
                                · omega
                                · have := z5.mp hh
                                  omega)]; rfl)))
            · refine x_iconst (pc := 123) dX6_isMapped_123 ?_
              refine x_goto (pc := 124) (tgt := 128) dX6_isMapped_124 (by decide) ?_
              refine x_icmp_ne (pc := 128) (tgt := 135) dX6_isMapped_128 (by decide) (bz_rg _) (by omega) (fun c128 => ?_) (fun c128 => ?_)
              · refine x_iconst (pc := 135) dX6_isMapped_135 ?_
                refine x_zret (pc := 136) dX6_isMapped_136 rfl (by omega) (by
                  refine ⟨?_, rfl, rfl⟩
                  have lowok : a = c ∨ (Lw w (max a c - 1) = true ↔ a < c) := by
                    by_cases ac : a = c
                    · exact Or.inl ac
                    · right
                      have z3 : w.testBit (max a c - 1) = Lw w (max a c - 1) := rfl
                      first
                        | omega
                        | (rw [z3] at c98
                           cases hh : Lw w (max a c - 1)
                           · rw [hh] at c98
                             first
                               | exact absurd c98 (by decide)
                               | exact ⟨fun q => absurd q (by decide), fun q => by omega⟩
                           · rw [hh] at c98
                             first
                               | exact absurd c98 (by decide)
                               | exact ⟨fun _ => by omega, fun _ => rfl⟩)
                  have z4 : w.testBit (min b e) = Lw w (min b e) := rfl
                  first
                    | (rw [show vdm (Lw w) a b c e = true from vdm_t.mpr ⟨by omega, lowok, Or.inl (by omega)⟩]; rfl)
                    | (rw [z4] at c128
                       cases hh : Lw w (min b e)
                       · rw [hh] at c128
                         first
                           | exact absurd c128 (by decide)
                           | exact absurd rfl c128
                           | (rw [show vdm (Lw w) a b c e = true from vdm_t.mpr ⟨by omega, lowok, Or.inr ⟨fun q => by rw [hh] at q; exact absurd q (by decide), fun q => by omega⟩⟩]; rfl)
                           | (rw [show vdm (Lw w) a b c e = false from Bool.eq_false_iff.mpr (fun q => by
                                have z5 := (vdm_t.mp q).2.2
                                rcases z5 with z5 | z5
                                · omega
                                · rw [hh] at z5
                                  exact absurd (z5.mpr (by omega)) (by decide))]; rfl)
                       · rw [hh] at c128
                         first
                           | exact absurd c128 (by decide)
                           | exact absurd rfl c128
                           | (rw [show vdm (Lw w) a b c e = true from vdm_t.mpr ⟨by omega, lowok, Or.inr ⟨fun _ => by omega, fun _ => hh⟩⟩]; rfl)
                           | (rw [show vdm (Lw w) a b c e = false from Bool.eq_false_iff.mpr (fun q => by
                                have z5 := (vdm_t.mp q).2.2
                                rcases z5 with z5 | z5
                                · omega
                                · have := z5.mp hh
                                  omega)]; rfl)))
              · refine x_iconst (pc := 131) dX6_isMapped_131 ?_
                refine x_goto (pc := 132) (tgt := 136) dX6_isMapped_132 (by decide) ?_
                refine x_zret (pc := 136) dX6_isMapped_136 rfl (by omega) (by
                  refine ⟨?_, rfl, rfl⟩
                  have lowok : a = c ∨ (Lw w (max a c - 1) = true ↔ a < c) := by
                    by_cases ac : a = c
                    · exact Or.inl ac
                    · right
                      have z3 : w.testBit (max a c - 1) = Lw w (max a c - 1) := rfl
                      first
                        | omega
                        | (rw [z3] at c98
                           cases hh : Lw w (max a c - 1)
                           · rw [hh] at c98
                             first
                               | exact absurd c98 (by decide)
                               | exact ⟨fun q => absurd q (by decide), fun q => by omega⟩
                           · rw [hh] at c98
                             first
                               | exact absurd c98 (by decide)
                               | exact ⟨fun _ => by omega, fun _ => rfl⟩)
                  have z4 : w.testBit (min b e) = Lw w (min b e) := rfl
                  first
                    | (rw [show vdm (Lw w) a b c e = true from vdm_t.mpr ⟨by omega, lowok, Or.inl (by omega)⟩]; rfl)
                    | (rw [z4] at c128
                       cases hh : Lw w (min b e)
                       · rw [hh] at c128
                         first
                           | exact absurd c128 (by decide)
                           | exact absurd rfl c128
                           | (rw [show vdm (Lw w) a b c e = true from vdm_t.mpr ⟨by omega, lowok, Or.inr ⟨fun q => by rw [hh] at q; exact absurd q (by decide), fun q => by omega⟩⟩]; rfl)
                           | (rw [show vdm (Lw w) a b c e = false from Bool.eq_false_iff.mpr (fun q => by
                                have z5 := (vdm_t.mp q).2.2
                                rcases z5 with z5 | z5
                                · omega
                                · rw [hh] at z5
                                  exact absurd (z5.mpr (by omega)) (by decide))]; rfl)
                       · rw [hh] at c128
                         first
                           | exact absurd c128 (by decide)
                           | exact absurd rfl c128
                           | (rw [show vdm (Lw w) a b c e = true from vdm_t.mpr ⟨by omega, lowok, Or.inr ⟨fun _ => by omega, fun _ => hh⟩⟩]; rfl)
                           | (rw [show vdm (Lw w) a b c e = false from Bool.eq_false_iff.mpr (fun q => by
                                have z5 := (vdm_t.mp q).2.2
                                rcases z5 with z5 | z5
                                · omega
                                · have := z5.mp hh
                                  omega)]; rfl)))
        · refine x_iconst (pc := 101) dX6_isMapped_101 ?_
          refine x_zret (pc := 102) dX6_isMapped_102 rfl (by omega) (by
            refine ⟨?_, rfl, rfl⟩
            rw [show vdm (Lw w) a b c e = false from Bool.eq_false_iff.mpr (fun q => ?_)]; rfl
            have z := (vdm_t.mp q).2.1
            have z2 : Lw w (max a c - 1) = true ↔ a < c := z.resolve_left (by omega)
            have z3 : w.testBit (max a c - 1) = Lw w (max a c - 1) := rfl
            rw [z3] at c98
            cases hh : Lw w (max a c - 1)
            · rw [hh] at c98 z2
              first
                | exact absurd rfl c98
                | exact absurd (z2.mpr (by omega)) (by decide)
            · rw [hh] at c98 z2
              first
                | exact absurd rfl c98
                | (have := z2.mp rfl; omega))
  · refine x_iconst (pc := 69) dX6_isMapped_69 ?_
    refine x_zret (pc := 70) dX6_isMapped_70 rfl (by omega) ⟨by rw [show vdm (Lw w) a b c e = false from Bool.eq_false_iff.mpr (fun q => (fun z => by have := z.1; omega) (vdm_t.mp q))]; rfl, rfl, rfl⟩

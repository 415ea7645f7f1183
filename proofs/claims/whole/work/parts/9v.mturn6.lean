theorem k_tuH {K : Type} [Lean.Grind.CommRing K] {f : Int → K} {G : GL} {d : Nat} {sz p N : Nat} (hf : Iot p f) (hz : 615 ≤ sz) (hN : 1 ≤ N ∧ N ≤ 8) (hP : isP p) {W : Nat → Nat} {S T : Nat → Int} (hS : inSm S) (hT : inTm T p) {l t z : Nat} (hl : l < 8) (ht : t < N) (hz8 : z < 8) {b : Bool} {Q : Option AV → HP → Nat → Prop} {hp : HP} (tx : TX hp p N W S T) {A E : Nat → Int} (Nw : NwA hp A E) {f00 : Nat → Int} (A0 : hp 360 = ar 0 9 f00) {i4 i5 i8 : Int} (e4 : i4 = bz (decide (0 < t))) (e5 : i5 = bz (decide (t + 1 < N))) (e8 : i8 = bz b) {v6 v7 v9 v10 v11 v12 v13 v14 v15 v16 v17 v18 v19 : AV} (hq : ∀ v h, TuM f p N l t z S T W b h v → Fu hp h → (∃ A E, NwA h A E) → (∃ f0, h 360 = ar 0 9 f0) → Q (some v) h sz) : Ex G (d + 3) 0 0 mX7_turn 139 [vr 92, vi l, vi t, vi z, vi i4, vi i5, v6, v7, vi i8, v9, v10, v11, v12, v13, v14, v15, v16, v17, v18, v19] [] hp sz Q := by
  subst e4 e5 e8
  refine k_tuA1 (d := d) hz hN tx.C tx.D hS hl ht ?_
  refine x_istore (pc := 156) dX7_turn_156 (by decide) rfl ?_
  show Ex _ _ _ _ _ _ [_, _, _, _, _, _, _, _, _, _, _, _, _, _, _, _, _, _, _, _] _ _ _ _
  refine k_tuA2 (d := d) hz hN tx.C tx.D hS hl ht ?_
  refine x_istore (pc := 175) dX7_turn_175 (by decide) rfl ?_
  show Ex _ _ _ _ _ _ [_, _, _, _, _, _, _, _, _, _, _, _, _, _, _, _, _, _, _, _] _ _ _ _
  exact k_tuM (d := d) hf hz hN hP hS hT hl ht hz8 tx Nw A0 hq
theorem ta_lf {w t : Nat} (h : 0 < t) : ta (Lw w) (t - 1) = t ↔ ¬ w.testBit (t - 1) = true := by
  unfold ta
  by_cases e : Lw w (t - 1) = true
  · rw [if_pos e]
    exact ⟨fun q => by omega, fun q => absurd e q⟩
  · rw [if_neg e]
    exact ⟨fun _ => e, fun _ => by omega⟩
theorem ta_rt {w t : Nat} : ta (Lw w) t = t ↔ w.testBit t = true := by
  unfold ta
  by_cases e : Lw w t = true
  · rw [if_pos e]
    exact ⟨fun _ => e, fun q => rfl⟩
  · rw [if_neg e]
    exact ⟨fun q => by omega, fun q => absurd q e⟩
theorem Tn_lr {N w t : Nat} (h : 0 < t) (h1 : t + 1 < N) : Tn N w t ↔ (ta (Lw w) (t - 1) = t ↔ ta (Lw w) t = t) := by
  rw [ta_lf h, ta_rt]
  unfold Tn
  constructor
  · rintro ⟨_, q | q | q⟩
    · omega
    · omega
    · revert q; cases w.testBit (t - 1) <;> cases w.testBit t <;> simp
  · intro q
    refine ⟨by omega, Or.inr (Or.inr ?_)⟩
    revert q; cases w.testBit (t - 1) <;> cases w.testBit t <;> simp

theorem k_tuWLR {K : Type} [Lean.Grind.CommRing K] {f : Int → K} {G : GL} {d : Nat} {sz p N : Nat} (hf : Iot p f) (hz : 615 ≤ sz) (hN : 1 ≤ N ∧ N ≤ 8) (hP : isP p) {W : Nat → Nat} {S T : Nat → Int} (hS : inSm S) (hT : inTm T p) {hp : HP} (tx : TX hp p N W S T) (nw : ∃ A E, NwA hp A E) (a0 : ∃ f0, hp 360 = ar 0 9 f0) {l t z : Nat} (hl : l < 8) (ht : t < N) (hz8 : z < 8) (hn1 : N ≠ 1) (t0 : 0 < t) (t1 : t + 1 < N) : Ex G (d + 3) 0 0 mX7_turn 32 [vr 92, vi l, vi t, vi z, vu, vu, vu, vu, vu, vu, vu, vu, vu, vu, vu, vu, vu, vu, vu, vu] [] hp sz (Vs (fun v h => (Tn N (W l) t ∧ TuM f p N l t z S T W (decide (ta (Lw (W l)) (if 0 < t then t - 1 else t) = t)) h v ∧ Fu hp h ∧ (∃ A E, NwA h A E) ∧ ∃ f0, h 360 = ar 0 9 f0) ∨ (¬ Tn N (W l) t ∧ v = vi (-1) ∧ h = hp)) sz) := by
  obtain ⟨A, E, Nw⟩ := nw
  obtain ⟨f00, A0⟩ := a0
  have C := tx.C
  have D := tx.D
  obtain ⟨C0, C1, C2, C3, C4, C5, C6, C7, C8, C11, C12, C13, C14, C15, C16, C17, C18, C19, C20, C21, C22, C23⟩ := id C
  have hob := C0.ob
  obtain ⟨D1, D2, D3, D4⟩ := id D
  refine x_iload_n (pc := 32) dX7_turn_32 rfl ?_
  refine x_if_le (pc := 33) (tgt := 40) dX7_turn_33 (by decide) (by omega) (fun c33 => ?_) (fun c33 => ?_)
  · exact absurd c33 (by omega)
  · refine x_iconst (pc := 36) dX7_turn_36 ?_
    refine x_goto (pc := 37) (tgt := 41) dX7_turn_37 (by decide) ?_
    refine x_istore (pc := 41) dX7_turn_41 (by decide) rfl ?_
    show Ex _ _ _ _ _ _ [_, _, _, _, _, _, _, _, _, _, _, _, _, _, _, _, _, _, _, _] _ _ _ _
    refine x_iload_n (pc := 43) dX7_turn_43 rfl ?_
    refine x_aload_n (pc := 44) dX7_turn_44 rfl ?_
    refine x_gf (pc := 45) dX7_turn_45 fX7_93 (by assumption) (by omega) ?_
    refine x_iconst (pc := 48) dX7_turn_48 ?_
    refine x_isub (pc := 49) dX7_turn_49 ?_
    refine x_icmp_ge (pc := 50) (tgt := 57) dX7_turn_50 (by decide) (by omega) (by omega) (fun c50 => ?_) (fun c50 => ?_)
    · exact absurd c50 (by omega)
    · refine x_iconst (pc := 53) dX7_turn_53 ?_
      refine x_goto (pc := 54) (tgt := 58) dX7_turn_54 (by decide) ?_
      refine x_istore (pc := 58) dX7_turn_58 (by decide) rfl ?_
      show Ex _ _ _ _ _ _ [_, _, _, _, _, _, _, _, _, _, _, _, _, _, _, _, _, _, _, _] _ _ _ _
      refine x_iload (pc := 60) dX7_turn_60 rfl ?_
      refine x_if_eq (pc := 62) (tgt := 81) dX7_turn_62 (by decide) (by omega) (fun c62 => ?_) (fun c62 => ?_)
      · exact absurd c62 (by omega)
      · refine x_aload_n (pc := 65) dX7_turn_65 rfl ?_
        refine x_iload_n (pc := 66) dX7_turn_66 rfl ?_
        refine x_iload_n (pc := 67) dX7_turn_67 rfl ?_
        refine x_iconst (pc := 68) dX7_turn_68 ?_
        refine x_isub (pc := 69) dX7_turn_69 ?_
        rw [show (t : Int) - 1 = ((t - 1 : Nat) : Int) by omega]
        refine x_w2 (pc := 70) dX7_turn_70 wX7_target iX7_target kX7_115 (by decide) rfl (Nat.le_of_ble_eq_true rfl) (by assumption) (by omega) (m_target C hz hN D hl (k := t - 1) (by omega)) ?_
        rw [show (if (W l).testBit (t - 1) = true then t - 1 else t - 1 + 1) = ta (Lw (W l)) (t - 1) from rfl]
        refine x_iload_n (pc := 73) dX7_turn_73 rfl ?_
        refine x_icmp_ne (pc := 74) (tgt := 81) dX7_turn_74 (by decide) (by have := so_ta (Lf := Lw (W l)) (k := t - 1); omega) (by omega) (fun c74 => ?_) (fun c74 => ?_)
        · refine x_iconst (pc := 81) dX7_turn_81 ?_
          refine x_istore (pc := 82) dX7_turn_82 (by decide) rfl ?_
          show Ex _ _ _ _ _ _ [_, _, _, _, _, _, _, _, _, _, _, _, _, _, _, _, _, _, _, _] _ _ _ _
          refine x_iload (pc := 84) dX7_turn_84 rfl ?_
          refine x_if_eq (pc := 86) (tgt := 103) dX7_turn_86 (by decide) (by omega) (fun c86 => ?_) (fun c86 => ?_)
          · exact absurd c86 (by omega)
          · refine x_aload_n (pc := 89) dX7_turn_89 rfl ?_
            refine x_iload_n (pc := 90) dX7_turn_90 rfl ?_
            refine x_iload_n (pc := 91) dX7_turn_91 rfl ?_
            refine x_w2 (pc := 92) dX7_turn_92 wX7_target iX7_target kX7_115 (by decide) rfl (Nat.le_of_ble_eq_true rfl) (by assumption) (by omega) (m_target C hz hN D hl (k := t) (by omega)) ?_
            rw [show (if (W l).testBit (t) = true then t else t + 1) = ta (Lw (W l)) (t) from rfl]
            refine x_iload_n (pc := 95) dX7_turn_95 rfl ?_
            refine x_icmp_ne (pc := 96) (tgt := 103) dX7_turn_96 (by decide) (by have := so_ta (Lf := Lw (W l)) (k := t); omega) (by omega) (fun c96 => ?_) (fun c96 => ?_)
            · refine x_iconst (pc := 103) dX7_turn_103 ?_
              refine x_istore (pc := 104) dX7_turn_104 (by decide) rfl ?_
              show Ex _ _ _ _ _ _ [_, _, _, _, _, _, _, _, _, _, _, _, _, _, _, _, _, _, _, _] _ _ _ _
              refine x_iload (pc := 106) dX7_turn_106 rfl ?_
              refine x_if_eq (pc := 108) (tgt := 116) dX7_turn_108 (by decide) (by omega) (fun c108 => ?_) (fun c108 => ?_)
              · exact absurd c108 (by omega)
              · refine x_iload (pc := 111) dX7_turn_111 rfl ?_
                refine x_goto (pc := 113) (tgt := 118) dX7_turn_113 (by decide) ?_
                refine x_istore (pc := 118) dX7_turn_118 (by decide) rfl ?_
                show Ex _ _ _ _ _ _ [_, _, _, _, _, _, _, _, _, _, _, _, _, _, _, _, _, _, _, _] _ _ _ _
                refine x_iload (pc := 120) dX7_turn_120 rfl ?_
                refine x_if_eq (pc := 122) (tgt := 139) dX7_turn_122 (by decide) (by omega) (fun c122 => ?_) (fun c122 => ?_)
                · exact absurd c122 (by omega)
                · refine x_iload (pc := 125) dX7_turn_125 rfl ?_
                  refine x_if_eq (pc := 127) (tgt := 139) dX7_turn_127 (by decide) (by omega) (fun c127 => ?_) (fun c127 => ?_)
                  · exact absurd c127 (by omega)
                  · refine x_iload (pc := 130) dX7_turn_130 rfl ?_
                    refine x_iload (pc := 132) dX7_turn_132 rfl ?_
                    refine x_icmp_eq (pc := 134) (tgt := 139) dX7_turn_134 (by decide) (by omega) (by omega) (fun c134 => ?_) (fun c134 => ?_)
                    · first
                        | exact absurd c134 (by omega)
                        | exact k_tuH (d := d) hf hz hN hP hS hT hl ht hz8 (b := decide (ta (Lw (W l)) (if 0 < t then t - 1 else t) = t)) tx Nw A0 (bz1 t0) (bz1 t1) (by first | exact bz1 (by rw [if_pos t0]; omega) | exact bz0 (by rw [if_pos t0]; omega)) (fun v h q1 q2 q3 q4 => ⟨_, rfl, rfl, Or.inl ⟨(Tn_lr t0 t1).mpr (by omega), q1, q2, q3, q4⟩⟩)
                    · refine x_iconst (pc := 137) dX7_turn_137 ?_
                      refine x_iret (pc := 138) dX7_turn_138 rfl ⟨_, rfl, rfl, Or.inr ⟨fun q => by have := (Tn_lr t0 t1).mp q; omega, rfl, rfl⟩⟩
            · refine x_iconst (pc := 99) dX7_turn_99 ?_
              refine x_goto (pc := 100) (tgt := 104) dX7_turn_100 (by decide) ?_
              refine x_istore (pc := 104) dX7_turn_104 (by decide) rfl ?_
              show Ex _ _ _ _ _ _ [_, _, _, _, _, _, _, _, _, _, _, _, _, _, _, _, _, _, _, _] _ _ _ _
              refine x_iload (pc := 106) dX7_turn_106 rfl ?_
              refine x_if_eq (pc := 108) (tgt := 116) dX7_turn_108 (by decide) (by omega) (fun c108 => ?_) (fun c108 => ?_)
              · exact absurd c108 (by omega)
              · refine x_iload (pc := 111) dX7_turn_111 rfl ?_
                refine x_goto (pc := 113) (tgt := 118) dX7_turn_113 (by decide) ?_
                refine x_istore (pc := 118) dX7_turn_118 (by decide) rfl ?_
                show Ex _ _ _ _ _ _ [_, _, _, _, _, _, _, _, _, _, _, _, _, _, _, _, _, _, _, _] _ _ _ _
                refine x_iload (pc := 120) dX7_turn_120 rfl ?_
                refine x_if_eq (pc := 122) (tgt := 139) dX7_turn_122 (by decide) (by omega) (fun c122 => ?_) (fun c122 => ?_)
                · exact absurd c122 (by omega)
                · refine x_iload (pc := 125) dX7_turn_125 rfl ?_
                  refine x_if_eq (pc := 127) (tgt := 139) dX7_turn_127 (by decide) (by omega) (fun c127 => ?_) (fun c127 => ?_)
                  · exact absurd c127 (by omega)
                  · refine x_iload (pc := 130) dX7_turn_130 rfl ?_
                    refine x_iload (pc := 132) dX7_turn_132 rfl ?_
                    refine x_icmp_eq (pc := 134) (tgt := 139) dX7_turn_134 (by decide) (by omega) (by omega) (fun c134 => ?_) (fun c134 => ?_)
                    · first
                        | exact absurd c134 (by omega)
                        | exact k_tuH (d := d) hf hz hN hP hS hT hl ht hz8 (b := decide (ta (Lw (W l)) (if 0 < t then t - 1 else t) = t)) tx Nw A0 (bz1 t0) (bz1 t1) (by first | exact bz1 (by rw [if_pos t0]; omega) | exact bz0 (by rw [if_pos t0]; omega)) (fun v h q1 q2 q3 q4 => ⟨_, rfl, rfl, Or.inl ⟨(Tn_lr t0 t1).mpr (by omega), q1, q2, q3, q4⟩⟩)
                    · refine x_iconst (pc := 137) dX7_turn_137 ?_
                      refine x_iret (pc := 138) dX7_turn_138 rfl ⟨_, rfl, rfl, Or.inr ⟨fun q => by have := (Tn_lr t0 t1).mp q; omega, rfl, rfl⟩⟩
        · refine x_iconst (pc := 77) dX7_turn_77 ?_
          refine x_goto (pc := 78) (tgt := 82) dX7_turn_78 (by decide) ?_
          refine x_istore (pc := 82) dX7_turn_82 (by decide) rfl ?_
          show Ex _ _ _ _ _ _ [_, _, _, _, _, _, _, _, _, _, _, _, _, _, _, _, _, _, _, _] _ _ _ _
          refine x_iload (pc := 84) dX7_turn_84 rfl ?_
          refine x_if_eq (pc := 86) (tgt := 103) dX7_turn_86 (by decide) (by omega) (fun c86 => ?_) (fun c86 => ?_)
          · exact absurd c86 (by omega)
          · refine x_aload_n (pc := 89) dX7_turn_89 rfl ?_
            refine x_iload_n (pc := 90) dX7_turn_90 rfl ?_
            refine x_iload_n (pc := 91) dX7_turn_91 rfl ?_
            refine x_w2 (pc := 92) dX7_turn_92 wX7_target iX7_target kX7_115 (by decide) rfl (Nat.le_of_ble_eq_true rfl) (by assumption) (by omega) (m_target C hz hN D hl (k := t) (by omega)) ?_
            rw [show (if (W l).testBit (t) = true then t else t + 1) = ta (Lw (W l)) (t) from rfl]
            refine x_iload_n (pc := 95) dX7_turn_95 rfl ?_
            refine x_icmp_ne (pc := 96) (tgt := 103) dX7_turn_96 (by decide) (by have := so_ta (Lf := Lw (W l)) (k := t); omega) (by omega) (fun c96 => ?_) (fun c96 => ?_)
            · refine x_iconst (pc := 103) dX7_turn_103 ?_
              refine x_istore (pc := 104) dX7_turn_104 (by decide) rfl ?_
              show Ex _ _ _ _ _ _ [_, _, _, _, _, _, _, _, _, _, _, _, _, _, _, _, _, _, _, _] _ _ _ _
              refine x_iload (pc := 106) dX7_turn_106 rfl ?_
              refine x_if_eq (pc := 108) (tgt := 116) dX7_turn_108 (by decide) (by omega) (fun c108 => ?_) (fun c108 => ?_)
              · exact absurd c108 (by omega)
              · refine x_iload (pc := 111) dX7_turn_111 rfl ?_
                refine x_goto (pc := 113) (tgt := 118) dX7_turn_113 (by decide) ?_
                refine x_istore (pc := 118) dX7_turn_118 (by decide) rfl ?_
                show Ex _ _ _ _ _ _ [_, _, _, _, _, _, _, _, _, _, _, _, _, _, _, _, _, _, _, _] _ _ _ _
                refine x_iload (pc := 120) dX7_turn_120 rfl ?_
                refine x_if_eq (pc := 122) (tgt := 139) dX7_turn_122 (by decide) (by omega) (fun c122 => ?_) (fun c122 => ?_)
                · exact absurd c122 (by omega)
                · refine x_iload (pc := 125) dX7_turn_125 rfl ?_
                  refine x_if_eq (pc := 127) (tgt := 139) dX7_turn_127 (by decide) (by omega) (fun c127 => ?_) (fun c127 => ?_)
                  · exact absurd c127 (by omega)
                  · refine x_iload (pc := 130) dX7_turn_130 rfl ?_
                    refine x_iload (pc := 132) dX7_turn_132 rfl ?_
                    refine x_icmp_eq (pc := 134) (tgt := 139) dX7_turn_134 (by decide) (by omega) (by omega) (fun c134 => ?_) (fun c134 => ?_)
                    · first
                        | exact absurd c134 (by omega)
                        | exact k_tuH (d := d) hf hz hN hP hS hT hl ht hz8 (b := decide (ta (Lw (W l)) (if 0 < t then t - 1 else t) = t)) tx Nw A0 (bz1 t0) (bz1 t1) (by first | exact bz1 (by rw [if_pos t0]; omega) | exact bz0 (by rw [if_pos t0]; omega)) (fun v h q1 q2 q3 q4 => ⟨_, rfl, rfl, Or.inl ⟨(Tn_lr t0 t1).mpr (by omega), q1, q2, q3, q4⟩⟩)
                    · refine x_iconst (pc := 137) dX7_turn_137 ?_
                      refine x_iret (pc := 138) dX7_turn_138 rfl ⟨_, rfl, rfl, Or.inr ⟨fun q => by have := (Tn_lr t0 t1).mp q; omega, rfl, rfl⟩⟩
            · refine x_iconst (pc := 99) dX7_turn_99 ?_
              refine x_goto (pc := 100) (tgt := 104) dX7_turn_100 (by decide) ?_
              refine x_istore (pc := 104) dX7_turn_104 (by decide) rfl ?_
              show Ex _ _ _ _ _ _ [_, _, _, _, _, _, _, _, _, _, _, _, _, _, _, _, _, _, _, _] _ _ _ _
              refine x_iload (pc := 106) dX7_turn_106 rfl ?_
              refine x_if_eq (pc := 108) (tgt := 116) dX7_turn_108 (by decide) (by omega) (fun c108 => ?_) (fun c108 => ?_)
              · exact absurd c108 (by omega)
              · refine x_iload (pc := 111) dX7_turn_111 rfl ?_
                refine x_goto (pc := 113) (tgt := 118) dX7_turn_113 (by decide) ?_
                refine x_istore (pc := 118) dX7_turn_118 (by decide) rfl ?_
                show Ex _ _ _ _ _ _ [_, _, _, _, _, _, _, _, _, _, _, _, _, _, _, _, _, _, _, _] _ _ _ _
                refine x_iload (pc := 120) dX7_turn_120 rfl ?_
                refine x_if_eq (pc := 122) (tgt := 139) dX7_turn_122 (by decide) (by omega) (fun c122 => ?_) (fun c122 => ?_)
                · exact absurd c122 (by omega)
                · refine x_iload (pc := 125) dX7_turn_125 rfl ?_
                  refine x_if_eq (pc := 127) (tgt := 139) dX7_turn_127 (by decide) (by omega) (fun c127 => ?_) (fun c127 => ?_)
                  · exact absurd c127 (by omega)
                  · refine x_iload (pc := 130) dX7_turn_130 rfl ?_
                    refine x_iload (pc := 132) dX7_turn_132 rfl ?_
                    refine x_icmp_eq (pc := 134) (tgt := 139) dX7_turn_134 (by decide) (by omega) (by omega) (fun c134 => ?_) (fun c134 => ?_)
                    · first
                        | exact absurd c134 (by omega)
                        | exact k_tuH (d := d) hf hz hN hP hS hT hl ht hz8 (b := decide (ta (Lw (W l)) (if 0 < t then t - 1 else t) = t)) tx Nw A0 (bz1 t0) (bz1 t1) (by first | exact bz1 (by rw [if_pos t0]; omega) | exact bz0 (by rw [if_pos t0]; omega)) (fun v h q1 q2 q3 q4 => ⟨_, rfl, rfl, Or.inl ⟨(Tn_lr t0 t1).mpr (by omega), q1, q2, q3, q4⟩⟩)
                    · refine x_iconst (pc := 137) dX7_turn_137 ?_
                      refine x_iret (pc := 138) dX7_turn_138 rfl ⟨_, rfl, rfl, Or.inr ⟨fun q => by have := (Tn_lr t0 t1).mp q; omega, rfl, rfl⟩⟩

theorem k_tuWL {K : Type} [Lean.Grind.CommRing K] {f : Int → K} {G : GL} {d : Nat} {sz p N : Nat} (hf : Iot p f) (hz : 615 ≤ sz) (hN : 1 ≤ N ∧ N ≤ 8) (hP : isP p) {W : Nat → Nat} {S T : Nat → Int} (hS : inSm S) (hT : inTm T p) {hp : HP} (tx : TX hp p N W S T) (nw : ∃ A E, NwA hp A E) (a0 : ∃ f0, hp 360 = ar 0 9 f0) {l t z : Nat} (hl : l < 8) (ht : t < N) (hz8 : z < 8) (hn1 : N ≠ 1) (t0 : 0 < t) (t1 : ¬ t + 1 < N) : Ex G (d + 3) 0 0 mX7_turn 32 [vr 92, vi l, vi t, vi z, vu, vu, vu, vu, vu, vu, vu, vu, vu, vu, vu, vu, vu, vu, vu, vu] [] hp sz (Vs (fun v h => (Tn N (W l) t ∧ TuM f p N l t z S T W (decide (ta (Lw (W l)) (if 0 < t then t - 1 else t) = t)) h v ∧ Fu hp h ∧ (∃ A E, NwA h A E) ∧ ∃ f0, h 360 = ar 0 9 f0) ∨ (¬ Tn N (W l) t ∧ v = vi (-1) ∧ h = hp)) sz) := by
  obtain ⟨A, E, Nw⟩ := nw
  obtain ⟨f00, A0⟩ := a0
  have C := tx.C
  have D := tx.D
  obtain ⟨C0, C1, C2, C3, C4, C5, C6, C7, C8, C11, C12, C13, C14, C15, C16, C17, C18, C19, C20, C21, C22, C23⟩ := id C
  have hob := C0.ob
  obtain ⟨D1, D2, D3, D4⟩ := id D
  refine x_iload_n (pc := 32) dX7_turn_32 rfl ?_
  refine x_if_le (pc := 33) (tgt := 40) dX7_turn_33 (by decide) (by omega) (fun c33 => ?_) (fun c33 => ?_)
  · exact absurd c33 (by omega)
  · refine x_iconst (pc := 36) dX7_turn_36 ?_
    refine x_goto (pc := 37) (tgt := 41) dX7_turn_37 (by decide) ?_
    refine x_istore (pc := 41) dX7_turn_41 (by decide) rfl ?_
    show Ex _ _ _ _ _ _ [_, _, _, _, _, _, _, _, _, _, _, _, _, _, _, _, _, _, _, _] _ _ _ _
    refine x_iload_n (pc := 43) dX7_turn_43 rfl ?_
    refine x_aload_n (pc := 44) dX7_turn_44 rfl ?_
    refine x_gf (pc := 45) dX7_turn_45 fX7_93 (by assumption) (by omega) ?_
    refine x_iconst (pc := 48) dX7_turn_48 ?_
    refine x_isub (pc := 49) dX7_turn_49 ?_
    refine x_icmp_ge (pc := 50) (tgt := 57) dX7_turn_50 (by decide) (by omega) (by omega) (fun c50 => ?_) (fun c50 => ?_)
    · refine x_iconst (pc := 57) dX7_turn_57 ?_
      refine x_istore (pc := 58) dX7_turn_58 (by decide) rfl ?_
      show Ex _ _ _ _ _ _ [_, _, _, _, _, _, _, _, _, _, _, _, _, _, _, _, _, _, _, _] _ _ _ _
      refine x_iload (pc := 60) dX7_turn_60 rfl ?_
      refine x_if_eq (pc := 62) (tgt := 81) dX7_turn_62 (by decide) (by omega) (fun c62 => ?_) (fun c62 => ?_)
      · exact absurd c62 (by omega)
      · refine x_aload_n (pc := 65) dX7_turn_65 rfl ?_
        refine x_iload_n (pc := 66) dX7_turn_66 rfl ?_
        refine x_iload_n (pc := 67) dX7_turn_67 rfl ?_
        refine x_iconst (pc := 68) dX7_turn_68 ?_
        refine x_isub (pc := 69) dX7_turn_69 ?_
        rw [show (t : Int) - 1 = ((t - 1 : Nat) : Int) by omega]
        refine x_w2 (pc := 70) dX7_turn_70 wX7_target iX7_target kX7_115 (by decide) rfl (Nat.le_of_ble_eq_true rfl) (by assumption) (by omega) (m_target C hz hN D hl (k := t - 1) (by omega)) ?_
        rw [show (if (W l).testBit (t - 1) = true then t - 1 else t - 1 + 1) = ta (Lw (W l)) (t - 1) from rfl]
        refine x_iload_n (pc := 73) dX7_turn_73 rfl ?_
        refine x_icmp_ne (pc := 74) (tgt := 81) dX7_turn_74 (by decide) (by have := so_ta (Lf := Lw (W l)) (k := t - 1); omega) (by omega) (fun c74 => ?_) (fun c74 => ?_)
        · refine x_iconst (pc := 81) dX7_turn_81 ?_
          refine x_istore (pc := 82) dX7_turn_82 (by decide) rfl ?_
          show Ex _ _ _ _ _ _ [_, _, _, _, _, _, _, _, _, _, _, _, _, _, _, _, _, _, _, _] _ _ _ _
          refine x_iload (pc := 84) dX7_turn_84 rfl ?_
          refine x_if_eq (pc := 86) (tgt := 103) dX7_turn_86 (by decide) (by omega) (fun c86 => ?_) (fun c86 => ?_)
          · refine x_iconst (pc := 103) dX7_turn_103 ?_
            refine x_istore (pc := 104) dX7_turn_104 (by decide) rfl ?_
            show Ex _ _ _ _ _ _ [_, _, _, _, _, _, _, _, _, _, _, _, _, _, _, _, _, _, _, _] _ _ _ _
            refine x_iload (pc := 106) dX7_turn_106 rfl ?_
            refine x_if_eq (pc := 108) (tgt := 116) dX7_turn_108 (by decide) (by omega) (fun c108 => ?_) (fun c108 => ?_)
            · exact absurd c108 (by omega)
            · refine x_iload (pc := 111) dX7_turn_111 rfl ?_
              refine x_goto (pc := 113) (tgt := 118) dX7_turn_113 (by decide) ?_
              refine x_istore (pc := 118) dX7_turn_118 (by decide) rfl ?_
              show Ex _ _ _ _ _ _ [_, _, _, _, _, _, _, _, _, _, _, _, _, _, _, _, _, _, _, _] _ _ _ _
              refine x_iload (pc := 120) dX7_turn_120 rfl ?_
              refine x_if_eq (pc := 122) (tgt := 139) dX7_turn_122 (by decide) (by omega) (fun c122 => ?_) (fun c122 => ?_)
              · exact absurd c122 (by omega)
              · refine x_iload (pc := 125) dX7_turn_125 rfl ?_
                refine x_if_eq (pc := 127) (tgt := 139) dX7_turn_127 (by decide) (by omega) (fun c127 => ?_) (fun c127 => ?_)
                · first
                    | exact absurd c134 (by omega)
                    | exact k_tuH (d := d) hf hz hN hP hS hT hl ht hz8 (b := decide (ta (Lw (W l)) (if 0 < t then t - 1 else t) = t)) tx Nw A0 (bz1 t0) (bz0 t1) (by first | exact bz1 (by rw [if_pos t0]; omega) | exact bz0 (by rw [if_pos t0]; omega)) (fun v h q1 q2 q3 q4 => ⟨_, rfl, rfl, Or.inl ⟨⟨by omega, Or.inr (Or.inl t1)⟩, q1, q2, q3, q4⟩⟩)
                · exact absurd c127 (by omega)
          · exact absurd c86 (by omega)
        · refine x_iconst (pc := 77) dX7_turn_77 ?_
          refine x_goto (pc := 78) (tgt := 82) dX7_turn_78 (by decide) ?_
          refine x_istore (pc := 82) dX7_turn_82 (by decide) rfl ?_
          show Ex _ _ _ _ _ _ [_, _, _, _, _, _, _, _, _, _, _, _, _, _, _, _, _, _, _, _] _ _ _ _
          refine x_iload (pc := 84) dX7_turn_84 rfl ?_
          refine x_if_eq (pc := 86) (tgt := 103) dX7_turn_86 (by decide) (by omega) (fun c86 => ?_) (fun c86 => ?_)
          · refine x_iconst (pc := 103) dX7_turn_103 ?_
            refine x_istore (pc := 104) dX7_turn_104 (by decide) rfl ?_
            show Ex _ _ _ _ _ _ [_, _, _, _, _, _, _, _, _, _, _, _, _, _, _, _, _, _, _, _] _ _ _ _
            refine x_iload (pc := 106) dX7_turn_106 rfl ?_
            refine x_if_eq (pc := 108) (tgt := 116) dX7_turn_108 (by decide) (by omega) (fun c108 => ?_) (fun c108 => ?_)
            · exact absurd c108 (by omega)
            · refine x_iload (pc := 111) dX7_turn_111 rfl ?_
              refine x_goto (pc := 113) (tgt := 118) dX7_turn_113 (by decide) ?_
              refine x_istore (pc := 118) dX7_turn_118 (by decide) rfl ?_
              show Ex _ _ _ _ _ _ [_, _, _, _, _, _, _, _, _, _, _, _, _, _, _, _, _, _, _, _] _ _ _ _
              refine x_iload (pc := 120) dX7_turn_120 rfl ?_
              refine x_if_eq (pc := 122) (tgt := 139) dX7_turn_122 (by decide) (by omega) (fun c122 => ?_) (fun c122 => ?_)
              · exact absurd c122 (by omega)
              · refine x_iload (pc := 125) dX7_turn_125 rfl ?_
                refine x_if_eq (pc := 127) (tgt := 139) dX7_turn_127 (by decide) (by omega) (fun c127 => ?_) (fun c127 => ?_)
                · first
                    | exact absurd c134 (by omega)
                    | exact k_tuH (d := d) hf hz hN hP hS hT hl ht hz8 (b := decide (ta (Lw (W l)) (if 0 < t then t - 1 else t) = t)) tx Nw A0 (bz1 t0) (bz0 t1) (by first | exact bz1 (by rw [if_pos t0]; omega) | exact bz0 (by rw [if_pos t0]; omega)) (fun v h q1 q2 q3 q4 => ⟨_, rfl, rfl, Or.inl ⟨⟨by omega, Or.inr (Or.inl t1)⟩, q1, q2, q3, q4⟩⟩)
                · exact absurd c127 (by omega)
          · exact absurd c86 (by omega)
    · exact absurd c50 (by omega)

theorem k_tuWR {K : Type} [Lean.Grind.CommRing K] {f : Int → K} {G : GL} {d : Nat} {sz p N : Nat} (hf : Iot p f) (hz : 615 ≤ sz) (hN : 1 ≤ N ∧ N ≤ 8) (hP : isP p) {W : Nat → Nat} {S T : Nat → Int} (hS : inSm S) (hT : inTm T p) {hp : HP} (tx : TX hp p N W S T) (nw : ∃ A E, NwA hp A E) (a0 : ∃ f0, hp 360 = ar 0 9 f0) {l t z : Nat} (hl : l < 8) (ht : t < N) (hz8 : z < 8) (hn1 : N ≠ 1) (t0 : ¬ 0 < t) (t1 : t + 1 < N) : Ex G (d + 3) 0 0 mX7_turn 32 [vr 92, vi l, vi t, vi z, vu, vu, vu, vu, vu, vu, vu, vu, vu, vu, vu, vu, vu, vu, vu, vu] [] hp sz (Vs (fun v h => (Tn N (W l) t ∧ TuM f p N l t z S T W (decide (ta (Lw (W l)) (if 0 < t then t - 1 else t) = t)) h v ∧ Fu hp h ∧ (∃ A E, NwA h A E) ∧ ∃ f0, h 360 = ar 0 9 f0) ∨ (¬ Tn N (W l) t ∧ v = vi (-1) ∧ h = hp)) sz) := by
  obtain ⟨A, E, Nw⟩ := nw
  obtain ⟨f00, A0⟩ := a0
  have C := tx.C
  have D := tx.D
  obtain ⟨C0, C1, C2, C3, C4, C5, C6, C7, C8, C11, C12, C13, C14, C15, C16, C17, C18, C19, C20, C21, C22, C23⟩ := id C
  have hob := C0.ob
  obtain ⟨D1, D2, D3, D4⟩ := id D
  refine x_iload_n (pc := 32) dX7_turn_32 rfl ?_
  refine x_if_le (pc := 33) (tgt := 40) dX7_turn_33 (by decide) (by omega) (fun c33 => ?_) (fun c33 => ?_)
  · refine x_iconst (pc := 40) dX7_turn_40 ?_
    refine x_istore (pc := 41) dX7_turn_41 (by decide) rfl ?_
    show Ex _ _ _ _ _ _ [_, _, _, _, _, _, _, _, _, _, _, _, _, _, _, _, _, _, _, _] _ _ _ _
    refine x_iload_n (pc := 43) dX7_turn_43 rfl ?_
    refine x_aload_n (pc := 44) dX7_turn_44 rfl ?_
    refine x_gf (pc := 45) dX7_turn_45 fX7_93 (by assumption) (by omega) ?_
    refine x_iconst (pc := 48) dX7_turn_48 ?_
    refine x_isub (pc := 49) dX7_turn_49 ?_
    refine x_icmp_ge (pc := 50) (tgt := 57) dX7_turn_50 (by decide) (by omega) (by omega) (fun c50 => ?_) (fun c50 => ?_)
    · exact absurd c50 (by omega)
    · refine x_iconst (pc := 53) dX7_turn_53 ?_
      refine x_goto (pc := 54) (tgt := 58) dX7_turn_54 (by decide) ?_
      refine x_istore (pc := 58) dX7_turn_58 (by decide) rfl ?_
      show Ex _ _ _ _ _ _ [_, _, _, _, _, _, _, _, _, _, _, _, _, _, _, _, _, _, _, _] _ _ _ _
      refine x_iload (pc := 60) dX7_turn_60 rfl ?_
      refine x_if_eq (pc := 62) (tgt := 81) dX7_turn_62 (by decide) (by omega) (fun c62 => ?_) (fun c62 => ?_)
      · refine x_iconst (pc := 81) dX7_turn_81 ?_
        refine x_istore (pc := 82) dX7_turn_82 (by decide) rfl ?_
        show Ex _ _ _ _ _ _ [_, _, _, _, _, _, _, _, _, _, _, _, _, _, _, _, _, _, _, _] _ _ _ _
        refine x_iload (pc := 84) dX7_turn_84 rfl ?_
        refine x_if_eq (pc := 86) (tgt := 103) dX7_turn_86 (by decide) (by omega) (fun c86 => ?_) (fun c86 => ?_)
        · exact absurd c86 (by omega)
        · refine x_aload_n (pc := 89) dX7_turn_89 rfl ?_
          refine x_iload_n (pc := 90) dX7_turn_90 rfl ?_
          refine x_iload_n (pc := 91) dX7_turn_91 rfl ?_
          refine x_w2 (pc := 92) dX7_turn_92 wX7_target iX7_target kX7_115 (by decide) rfl (Nat.le_of_ble_eq_true rfl) (by assumption) (by omega) (m_target C hz hN D hl (k := t) (by omega)) ?_
          rw [show (if (W l).testBit (t) = true then t else t + 1) = ta (Lw (W l)) (t) from rfl]
          refine x_iload_n (pc := 95) dX7_turn_95 rfl ?_
          refine x_icmp_ne (pc := 96) (tgt := 103) dX7_turn_96 (by decide) (by have := so_ta (Lf := Lw (W l)) (k := t); omega) (by omega) (fun c96 => ?_) (fun c96 => ?_)
          · refine x_iconst (pc := 103) dX7_turn_103 ?_
            refine x_istore (pc := 104) dX7_turn_104 (by decide) rfl ?_
            show Ex _ _ _ _ _ _ [_, _, _, _, _, _, _, _, _, _, _, _, _, _, _, _, _, _, _, _] _ _ _ _
            refine x_iload (pc := 106) dX7_turn_106 rfl ?_
            refine x_if_eq (pc := 108) (tgt := 116) dX7_turn_108 (by decide) (by omega) (fun c108 => ?_) (fun c108 => ?_)
            · refine x_iload (pc := 116) dX7_turn_116 rfl ?_
              refine x_istore (pc := 118) dX7_turn_118 (by decide) rfl ?_
              show Ex _ _ _ _ _ _ [_, _, _, _, _, _, _, _, _, _, _, _, _, _, _, _, _, _, _, _] _ _ _ _
              refine x_iload (pc := 120) dX7_turn_120 rfl ?_
              refine x_if_eq (pc := 122) (tgt := 139) dX7_turn_122 (by decide) (by omega) (fun c122 => ?_) (fun c122 => ?_)
              · first
                  | exact absurd c134 (by omega)
                  | exact k_tuH (d := d) hf hz hN hP hS hT hl ht hz8 (b := decide (ta (Lw (W l)) (if 0 < t then t - 1 else t) = t)) tx Nw A0 (bz0 t0) (bz1 t1) (by first | exact bz1 (by rw [if_neg t0]; omega) | exact bz0 (by rw [if_neg t0]; omega)) (fun v h q1 q2 q3 q4 => ⟨_, rfl, rfl, Or.inl ⟨⟨by omega, Or.inl (by omega)⟩, q1, q2, q3, q4⟩⟩)
              · exact absurd c122 (by omega)
            · exact absurd c108 (by omega)
          · refine x_iconst (pc := 99) dX7_turn_99 ?_
            refine x_goto (pc := 100) (tgt := 104) dX7_turn_100 (by decide) ?_
            refine x_istore (pc := 104) dX7_turn_104 (by decide) rfl ?_
            show Ex _ _ _ _ _ _ [_, _, _, _, _, _, _, _, _, _, _, _, _, _, _, _, _, _, _, _] _ _ _ _
            refine x_iload (pc := 106) dX7_turn_106 rfl ?_
            refine x_if_eq (pc := 108) (tgt := 116) dX7_turn_108 (by decide) (by omega) (fun c108 => ?_) (fun c108 => ?_)
            · refine x_iload (pc := 116) dX7_turn_116 rfl ?_
              refine x_istore (pc := 118) dX7_turn_118 (by decide) rfl ?_
              show Ex _ _ _ _ _ _ [_, _, _, _, _, _, _, _, _, _, _, _, _, _, _, _, _, _, _, _] _ _ _ _
              refine x_iload (pc := 120) dX7_turn_120 rfl ?_
              refine x_if_eq (pc := 122) (tgt := 139) dX7_turn_122 (by decide) (by omega) (fun c122 => ?_) (fun c122 => ?_)
              · first
                  | exact absurd c134 (by omega)
                  | exact k_tuH (d := d) hf hz hN hP hS hT hl ht hz8 (b := decide (ta (Lw (W l)) (if 0 < t then t - 1 else t) = t)) tx Nw A0 (bz0 t0) (bz1 t1) (by first | exact bz1 (by rw [if_neg t0]; omega) | exact bz0 (by rw [if_neg t0]; omega)) (fun v h q1 q2 q3 q4 => ⟨_, rfl, rfl, Or.inl ⟨⟨by omega, Or.inl (by omega)⟩, q1, q2, q3, q4⟩⟩)
              · exact absurd c122 (by omega)
            · exact absurd c108 (by omega)
      · exact absurd c62 (by omega)
  · exact absurd c33 (by omega)

set_option maxRecDepth 4000 in
theorem m_turn {K : Type} [Lean.Grind.CommRing K] {f : Int → K} {G : GL} {d : Nat} {sz p N : Nat} (hf : Iot p f) (hz : 615 ≤ sz) (hN : 1 ≤ N ∧ N ≤ 8) (hP : isP p) {W : Nat → Nat} {S T : Nat → Int} (hS : inSm S) (hT : inTm T p) {hp : HP} (tx : TX hp p N W S T) (nw : ∃ A E, NwA hp A E) (a0 : ∃ f0, hp 360 = ar 0 9 f0) {x : Int} (hx : -2147483648 ≤ x ∧ x < 2147483648) {y : Int} (hy : -2147483648 ≤ y ∧ y < 2147483648) {z : Int} (hz1 : -2147483648 ≤ z ∧ z < 2147483648) : Ct G (d + 3) 0 0 mX7_turn [vr 92, vi x, vi y, vi z] hp sz (Vs (fun v h => ((0 ≤ x ∧ x < 8 ∧ 0 ≤ y ∧ y < N ∧ 0 ≤ z ∧ z < 8 ∧ Tn N (W x.toNat) y.toNat) ∧ TuM f p N x.toNat y.toNat z.toNat S T W (decide (ta (Lw (W x.toNat)) (if 0 < y.toNat then y.toNat - 1 else y.toNat) = y.toNat)) h v ∧ Fu hp h ∧ (∃ A E, NwA h A E) ∧ ∃ f0, h 360 = ar 0 9 f0) ∨ ((¬ (0 ≤ x ∧ x < 8 ∧ 0 ≤ y ∧ y < N ∧ 0 ≤ z ∧ z < 8 ∧ Tn N (W x.toNat) y.toNat)) ∧ v = vi (-1) ∧ h = hp)) sz) := by
  show Ex _ _ _ _ _ _ [vr 92, vi x, vi y, vi z, vu, vu, vu, vu, vu, vu, vu, vu, vu, vu, vu, vu, vu, vu, vu, vu] _ _ _ _
  have C := tx.C
  obtain ⟨C0, C1, C2, C3, C4, C5, C6, C7, C8, C11, C12, C13, C14, C15, C16, C17, C18, C19, C20, C21, C22, C23⟩ := id C
  have hob := C0.ob
  refine x_iload_n (pc := 0) dX7_turn_0 rfl ?_
  refine x_t1 (pc := 1) dX7_turn_1 wX7_isLaying sX7_isLaying kX7_104 (by decide) rfl (Nat.le_of_ble_eq_true rfl) (m_isLaying hx) ?_
  refine x_if_eq (pc := 4) (tgt := 30) dX7_turn_4 (by decide) (bz_rg _) (fun c4 => ?_) (fun c4 => ?_)
  · have d1 := bz_e c4
    refine x_iconst (pc := 30) dX7_turn_30 ?_
    refine x_iret (pc := 31) dX7_turn_31 rfl (by first | exact ⟨_, rfl, rfl, Or.inr ⟨fun q => by omega, rfl, rfl⟩⟩ | exact ⟨_, rfl, rfl, Or.inr ⟨fun q => q.2.2.2.2.2.2.1 (by omega), rfl, rfl⟩⟩)
  · have d1 := bz_n c4
    refine x_iload_n (pc := 7) dX7_turn_7 rfl ?_
    refine x_t1 (pc := 8) dX7_turn_8 wX7_isLaying sX7_isLaying kX7_104 (by decide) rfl (Nat.le_of_ble_eq_true rfl) (m_isLaying hz1) ?_
    refine x_if_eq (pc := 11) (tgt := 30) dX7_turn_11 (by decide) (bz_rg _) (fun c11 => ?_) (fun c11 => ?_)
    · have d2 := bz_e c11
      refine x_iconst (pc := 30) dX7_turn_30 ?_
      refine x_iret (pc := 31) dX7_turn_31 rfl (by first | exact ⟨_, rfl, rfl, Or.inr ⟨fun q => by omega, rfl, rfl⟩⟩ | exact ⟨_, rfl, rfl, Or.inr ⟨fun q => q.2.2.2.2.2.2.1 (by omega), rfl, rfl⟩⟩)
    · have d2 := bz_n c11
      refine x_aload_n (pc := 14) dX7_turn_14 rfl ?_
      refine x_iload_n (pc := 15) dX7_turn_15 rfl ?_
      refine x_w1 (pc := 16) dX7_turn_16 wX7_isPost iX7_isPost kX7_136 (by decide) rfl (Nat.le_of_ble_eq_true rfl) (by assumption) (by omega) (m_isPost C hz hN hy) ?_
      refine x_if_eq (pc := 19) (tgt := 30) dX7_turn_19 (by decide) (bz_rg _) (fun c19 => ?_) (fun c19 => ?_)
      · have d3 := bz_e c19
        refine x_iconst (pc := 30) dX7_turn_30 ?_
        refine x_iret (pc := 31) dX7_turn_31 rfl (by first | exact ⟨_, rfl, rfl, Or.inr ⟨fun q => by omega, rfl, rfl⟩⟩ | exact ⟨_, rfl, rfl, Or.inr ⟨fun q => q.2.2.2.2.2.2.1 (by omega), rfl, rfl⟩⟩)
      · have d3 := bz_n c19
        obtain ⟨l, rfl⟩ : ∃ l : Nat, x = (l : Int) := ⟨x.toNat, by omega⟩
        obtain ⟨t, rfl⟩ : ∃ l : Nat, y = (l : Int) := ⟨y.toNat, by omega⟩
        obtain ⟨z, rfl⟩ : ∃ l : Nat, z = (l : Int) := ⟨z.toNat, by omega⟩
        simp only [Int.toNat_natCast]
        have hl : l < 8 := by omega
        refine x_aload_n (pc := 22) dX7_turn_22 rfl ?_
        refine x_gf (pc := 23) dX7_turn_23 fX7_93 (by assumption) (by omega) ?_
        refine x_iconst (pc := 26) dX7_turn_26 ?_
        refine x_icmp_ne (pc := 27) (tgt := 32) dX7_turn_27 (by decide) (by omega) (by omega) (fun c27 => ?_) (fun c27 => ?_)
        · have hn1 : N ≠ 1 := by omega
          by_cases t0 : 0 < t
          · by_cases t1 : t + 1 < N
            · exact Ex.mono (fun r h9 s9 q9 => by
                obtain ⟨v9, e9, z9, q9⟩ := q9
                refine ⟨v9, e9, z9, ?_⟩
                rcases q9 with q9 | q9
                · exact Or.inl ⟨⟨by omega, by omega, by omega, by omega, by omega, by omega, q9.1⟩, q9.2⟩
                · exact Or.inr ⟨fun q => q9.1 q.2.2.2.2.2.2, q9.2⟩) (k_tuWLR (d := d) hf hz hN hP hS hT tx nw a0 hl (by omega) (by omega) (by omega) t0 t1)
            · exact Ex.mono (fun r h9 s9 q9 => by
                obtain ⟨v9, e9, z9, q9⟩ := q9
                refine ⟨v9, e9, z9, ?_⟩
                rcases q9 with q9 | q9
                · exact Or.inl ⟨⟨by omega, by omega, by omega, by omega, by omega, by omega, q9.1⟩, q9.2⟩
                · exact Or.inr ⟨fun q => q9.1 q.2.2.2.2.2.2, q9.2⟩) (k_tuWL (d := d) hf hz hN hP hS hT tx nw a0 hl (by omega) (by omega) (by omega) t0 t1)
          · exact Ex.mono (fun r h9 s9 q9 => by
              obtain ⟨v9, e9, z9, q9⟩ := q9
              refine ⟨v9, e9, z9, ?_⟩
              rcases q9 with q9 | q9
              · exact Or.inl ⟨⟨by omega, by omega, by omega, by omega, by omega, by omega, q9.1⟩, q9.2⟩
              · exact Or.inr ⟨fun q => q9.1 q.2.2.2.2.2.2, q9.2⟩) (k_tuWR (d := d) hf hz hN hP hS hT tx nw a0 hl (by omega) (by omega) (by omega) t0 (by omega))
        · refine x_iconst (pc := 30) dX7_turn_30 ?_
          refine x_iret (pc := 31) dX7_turn_31 rfl (by first | exact ⟨_, rfl, rfl, Or.inr ⟨fun q => by omega, rfl, rfl⟩⟩ | exact ⟨_, rfl, rfl, Or.inr ⟨fun q => q.2.2.2.2.2.2.1 (by omega), rfl, rfl⟩⟩)

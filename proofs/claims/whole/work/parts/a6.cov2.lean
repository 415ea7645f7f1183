set_option maxRecDepth 4000 in
theorem k_cv {G : GL} {d : Nat} {sz p N : Nat} (hz : 615 ≤ sz) {sd : Nat} (hsd : sd < 2) {Bg En Cn : Nat → Int} {c1 c2 : Nat} (hc1 : c1 ≤ 32) (hc2 : c2 ≤ 32) (r1 : rg8 (ub Bg sd) (ub En sd) c1) (r2 : rg8 (ub Bg (1 - sd)) (ub En (1 - sd)) c2) (hcn1 : Cn sd = (c1 : Int)) (hcn : Cn (1 - sd) = (c2 : Int)) {most : Nat} (hmo : most ≤ 8) {hp0 : HP} : ∀ i, i ≤ c1 → ∀ (hp : HP) (pr td : Nat → Int) (v4 : AV), KrA hp p N Bg En Cn pr td → (∀ k, td k = 0 ∨ td k = 1) → Fr hp0 hp 401 402 → KB (fun i o => csp (ub Bg sd) (ub En sd) (ub Bg (1 - sd)) (ub En (1 - sd)) i o ≤ (most : Int)) c1 c2 (fun i => (most : Int) < ub En sd i - ub Bg sd i + 1) i pr → Ex G (d + 35) 0 0 mX7_isCovered 23 [vr 92, vi sd, vi most, vi i, v4] [] hp sz (Vs (fun v h => Fr hp0 h 401 402 ∧ ∃ (r : Bool) (pr td : Nat → Int), v = vi (bz r) ∧ (r = true ↔ CPu (ub Bg sd) (ub En sd) c1 (ub Bg (1 - sd)) (ub En (1 - sd)) c2 most) ∧ h 401 = ar 0 32 pr ∧ h 402 = ar 3 32 td ∧ (∀ k, td k = 0 ∨ td k = 1)) sz) := by
  refine down (fun hp pr td v4 ka h01 ff kb => ?_) (fun i hi ih hp pr td v4 ka h01 ff kb => ?_)
  · obtain ⟨C, ⟨LB, LE, LC⟩, LP, LT⟩ := id ka
    obtain ⟨C0, C1, C2, C3, C4, C5, C6, C7, C8, C11, C12, C13, C14, C15, C16, C17, C18, C19, C20, C21, C22, C23⟩ := id C
    have hob := C0.ob
    refine x_iload_n (pc := 23) dX7_isCovered_23 rfl ?_
    refine x_aload_n (pc := 24) dX7_isCovered_24 rfl ?_
    refine x_gf (pc := 25) dX7_isCovered_25 fX7_54 (by assumption) (by omega) ?_
    refine x_iload_n (pc := 28) dX7_isCovered_28 rfl ?_
    refine x_il (pc := 29) dX7_isCovered_29 (by assumption) (by omega) rfl (by omega) ?_
    rw [hcn1]
    refine x_icmp_ge (pc := 30) (tgt := 107) dX7_isCovered_30 (by decide) (by omega) (by omega) (fun c30 => ?_) (fun c30 => ?_)
    · refine x_iconst (pc := 107) dX7_isCovered_107 ?_
      refine x_zret (pc := 108) dX7_isCovered_108 rfl (Or.inr rfl) ⟨_, rfl, rfl, ff, true, pr, td, rfl, ⟨fun _ => kb.full, fun _ => rfl⟩, LP, LT, h01⟩
    · exact absurd c30 (by omega)
  · obtain ⟨C, ⟨LB, LE, LC⟩, LP, LT⟩ := id ka
    obtain ⟨C0, C1, C2, C3, C4, C5, C6, C7, C8, C11, C12, C13, C14, C15, C16, C17, C18, C19, C20, C21, C22, C23⟩ := id C
    have hob := C0.ob
    have hri := r1 i hi
    unfold ub at hri
    refine x_iload_n (pc := 23) dX7_isCovered_23 rfl ?_
    refine x_aload_n (pc := 24) dX7_isCovered_24 rfl ?_
    refine x_gf (pc := 25) dX7_isCovered_25 fX7_54 (by assumption) (by omega) ?_
    refine x_iload_n (pc := 28) dX7_isCovered_28 rfl ?_
    refine x_il (pc := 29) dX7_isCovered_29 (by assumption) (by omega) rfl (by omega) ?_
    rw [hcn1]
    refine x_icmp_ge (pc := 30) (tgt := 107) dX7_isCovered_30 (by decide) (by omega) (by omega) (fun c30 => ?_) (fun c30 => ?_)
    · exact absurd c30 (by omega)
    · refine x_aload_n (pc := 33) dX7_isCovered_33 rfl ?_
      refine x_gf (pc := 34) dX7_isCovered_34 fX7_51 (by assumption) (by omega) ?_
      refine x_bipush (pc := 37) dX7_isCovered_37 (by decide) ?_
      refine x_iload_n (pc := 39) dX7_isCovered_39 rfl ?_
      refine x_imul (pc := 40) dX7_isCovered_40 ?_
      refine x_iload_n (pc := 41) dX7_isCovered_41 rfl ?_
      refine x_iadd (pc := 42) dX7_isCovered_42 ?_
      rw [show (32 : Int) * (sd : Int) + (i : Int) = ((32 * sd + i : Nat) : Int) by omega]
      refine x_il (pc := 43) dX7_isCovered_43 (by assumption) (by omega) rfl (by omega) ?_
      refine x_aload_n (pc := 44) dX7_isCovered_44 rfl ?_
      refine x_gf (pc := 45) dX7_isCovered_45 fX7_48 (by assumption) (by omega) ?_
      refine x_bipush (pc := 48) dX7_isCovered_48 (by decide) ?_
      refine x_iload_n (pc := 50) dX7_isCovered_50 rfl ?_
      refine x_imul (pc := 51) dX7_isCovered_51 ?_
      refine x_iload_n (pc := 52) dX7_isCovered_52 rfl ?_
      refine x_iadd (pc := 53) dX7_isCovered_53 ?_
      rw [show (32 : Int) * (sd : Int) + (i : Int) = ((32 * sd + i : Nat) : Int) by omega]
      refine x_il (pc := 54) dX7_isCovered_54 (by assumption) (by omega) rfl (by omega) ?_
      refine x_isub (pc := 55) dX7_isCovered_55 ?_
      refine x_iconst (pc := 56) dX7_isCovered_56 ?_
      refine x_iadd (pc := 57) dX7_isCovered_57 ?_
      refine x_iload_n (pc := 58) dX7_isCovered_58 rfl ?_
      refine x_icmp_gt (pc := 59) (tgt := 65) dX7_isCovered_59 (by decide) (by have := r1 i hi; unfold ub at this; omega) (by omega) (fun c59 => ?_) (fun c59 => ?_)
      · refine x_iconst (pc := 65) dX7_isCovered_65 ?_
        refine x_istore (pc := 66) dX7_isCovered_66 (by decide) rfl ?_
        show Ex _ _ _ _ _ _ [_, _, _, _, _] _ _ _ _
        have hdr : (fun i => (most : Int) < ub En sd i - ub Bg sd i + 1) i := by show (most : Int) < En (32 * sd + i) - Bg (32 * sd + i) + 1; omega
        have key := k_cv2 (G := G) (d := d + 35) (sd := sd) (most := most) (i := i) (Q := (Vs (fun v h => Fr hp0 h 401 402 ∧ ∃ (r : Bool) (pr td : Nat → Int), v = vi (bz r) ∧ (r = true ↔ CPu (ub Bg sd) (ub En sd) c1 (ub Bg (1 - sd)) (ub En (1 - sd)) c2 most) ∧ h 401 = ar 0 32 pr ∧ h 402 = ar 3 32 td ∧ (∀ k, td k = 0 ∨ td k = 1)) sz)) hz ka ?_ 0 (by omega)
        · rw [show (fun j => if j < 0 then (0 : Int) else td j) = td from funext fun j => if_neg (Nat.not_lt_zero _), show up hp 402 (ar 3 32 td) = hp from by
            funext q
            by_cases e : q = 402
            · rw [e, up_s, LT]
            · rw [up_n _ _ e]] at key
          exact key
        · have ka2 := ka.utd (q := (fun j => if j < 32 then (0 : Int) else td j))
          have ff2 : Fr hp0 (up hp 402 (ar 3 32 (fun j => if j < 32 then (0 : Int) else td j))) 401 402 := ff.up (by omega) (by omega)
          have z2 : ∀ j, (fun j => if j < 32 then (0 : Int) else td j) j = 0 ∨ (fun j => if j < 32 then (0 : Int) else td j) j = 1 := fun j => by
            by_cases q : j < 32
            · exact Or.inl (if_pos q)
            · rcases h01 j with z | z
              · exact Or.inl ((if_neg q).trans z)
              · exact Or.inr ((if_neg q).trans z)
          have ht0 : ∀ k, k < c2 → (fun j => if j < 32 then (0 : Int) else td j) k = 0 := fun k hk => if_pos (by omega)
          have hob2 := ka2.1.1.ob
          refine x_aload_n (pc := 89) dX7_isCovered_89 rfl ?_
          refine x_iload_n (pc := 90) dX7_isCovered_90 rfl ?_
          refine x_iload_n (pc := 91) dX7_isCovered_91 rfl ?_
          refine x_iload_n (pc := 92) dX7_isCovered_92 rfl ?_
          refine x_y3 (pc := 93) dX7_isCovered_93 wX7_finds iX7_finds kX7_193 (by decide) rfl (Nat.le_of_ble_eq_true rfl) hob2 (by omega) (m_finds (d := d) hz hsd hc1 hc2 r1 r2 hcn hmo 32 _ i _ hi ka2 z2 kb.k0 (Nat.le_trans (tz_n _ _) hc2)) (fun v93 h93 e93 => ?_)
          obtain ⟨f93, r93, pr3, td3, rfl, g1, g2, g3, g4⟩ := e93
          have ka3 := ka2.of f93 g1 g2
          have ff3 := ff2.tr f93
          refine x_if_ne (pc := 96) (tgt := 101) dX7_isCovered_96 (by decide) (bz_rg _) (fun c96 => ?_) (fun c96 => ?_)
          · replace g4 := g4.resolve_right (fun q => by rw [q.1] at c96; exact absurd rfl c96)
            refine x_iinc (pc := 101) dX7_isCovered_101 rfl (by decide) rfl ?_
            show Ex _ _ _ _ _ _ [_, _, _, _, _] _ _ _ _
            refine x_goto (pc := 104) (tgt := 23) dX7_isCovered_104 (by decide) ?_
            exact ih _ _ _ _ ka3 g3 ff3 (kb.yes ht0 hdr g4.2)
          · replace g4 := g4.resolve_left (fun q => by rw [q.1] at c96; exact absurd c96 (by decide))
            refine x_iconst (pc := 99) dX7_isCovered_99 ?_
            refine x_zret (pc := 100) dX7_isCovered_100 rfl (Or.inl rfl) (by
              refine ⟨_, rfl, rfl, ff3, false, pr3, td3, rfl, ⟨fun q => absurd q (by decide), fun q => absurd q ?_⟩, g1, g2, g3⟩
              exact KN.none kb.k0 ht0 g4.2.2 hi hdr (fun k x hk e => ((kb.2.2 x).mp ⟨k, hk, e⟩).2))
      · refine x_goto (pc := 62) (tgt := 101) dX7_isCovered_62 (by decide) ?_
        refine x_iinc (pc := 101) dX7_isCovered_101 rfl (by decide) rfl ?_
        show Ex _ _ _ _ _ _ [_, _, _, _, _] _ _ _ _
        refine x_goto (pc := 104) (tgt := 23) dX7_isCovered_104 (by decide) ?_
        exact ih _ _ _ _ ka h01 ff (kb.skip (fun q => by have q2 : (most : Int) < En (32 * sd + i) - Bg (32 * sd + i) + 1 := q; omega))

set_option maxRecDepth 4000 in
theorem m_isCovered {G : GL} {d : Nat} {sz p N : Nat} (hz : 615 ≤ sz) {sd : Nat} (hsd : sd < 2) {Bg En Cn : Nat → Int} {c1 c2 : Nat} (hc1 : c1 ≤ 32) (hc2 : c2 ≤ 32) (r1 : rg8 (ub Bg sd) (ub En sd) c1) (r2 : rg8 (ub Bg (1 - sd)) (ub En (1 - sd)) c2) (hcn1 : Cn sd = (c1 : Int)) (hcn : Cn (1 - sd) = (c2 : Int)) {most : Nat} (hmo : most ≤ 8) {hp : HP} {pr td : Nat → Int} (ka : KrA hp p N Bg En Cn pr td) (h01 : (∀ k, td k = 0 ∨ td k = 1)) : Ct G (d + 35) 0 0 mX7_isCovered [vr 92, vi sd, vi most] hp sz (Vs (fun v h => Fr hp h 401 402 ∧ ∃ (r : Bool) (pr td : Nat → Int), v = vi (bz r) ∧ (r = true ↔ CPu (ub Bg sd) (ub En sd) c1 (ub Bg (1 - sd)) (ub En (1 - sd)) c2 most) ∧ h 401 = ar 0 32 pr ∧ h 402 = ar 3 32 td ∧ (∀ k, td k = 0 ∨ td k = 1)) sz) := by
  show Ex _ _ _ _ _ _ [vr 92, vi sd, vi most, vu, vu] _ _ _ _
  obtain ⟨C, ⟨LB, LE, LC⟩, LP, LT⟩ := id ka
  obtain ⟨C0, C1, C2, C3, C4, C5, C6, C7, C8, C11, C12, C13, C14, C15, C16, C17, C18, C19, C20, C21, C22, C23⟩ := id C
  have hob := C0.ob
  refine x_iconst (pc := 0) dX7_isCovered_0 ?_
  refine x_istore_n (pc := 1) dX7_isCovered_1 (by decide) rfl ?_
  show Ex _ _ _ _ _ _ [_, _, _, _, _] _ _ _ _
  have key := k_cv1 (G := G) (d := d + 35) (sd := sd) (most := most) (v4 := vu) (Q := (Vs (fun v h => Fr hp h 401 402 ∧ ∃ (r : Bool) (pr td : Nat → Int), v = vi (bz r) ∧ (r = true ↔ CPu (ub Bg sd) (ub En sd) c1 (ub Bg (1 - sd)) (ub En (1 - sd)) c2 most) ∧ h 401 = ar 0 32 pr ∧ h 402 = ar 3 32 td ∧ (∀ k, td k = 0 ∨ td k = 1)) sz)) hz ka ?_ 0 (by omega)
  · rw [show (fun j => if j < 0 then (-1 : Int) else pr j) = pr from funext fun j => if_neg (Nat.not_lt_zero _), show up hp 401 (ar 0 32 pr) = hp from by
      funext q
      by_cases e : q = 401
      · rw [e, up_s, LP]
      · rw [up_n _ _ e]] at key
    exact key
  · have ka2 := ka.upr (q := (fun j => if j < 32 then (-1 : Int) else pr j))
    refine x_iconst (pc := 21) dX7_isCovered_21 ?_
    refine x_istore_n (pc := 22) dX7_isCovered_22 (by decide) rfl ?_
    show Ex _ _ _ _ _ _ [_, _, _, _, _] _ _ _ _
    exact k_cv (d := d) hz hsd hc1 hc2 r1 r2 hcn1 hcn hmo 0 (by omega) _ _ _ _ ka2 h01 (Fr.rf.up (by omega) (by omega)) ⟨fun k hk => Or.inl (if_pos (by omega)), fun k k' hk hk' hne => absurd (if_pos (by omega)) hne, fun x => ⟨fun ⟨k, hk, e⟩ => by have e2 := (if_pos (show k < 32 by omega)).symm.trans e; omega, fun q => absurd q.1 (Nat.not_lt_zero _)⟩⟩

/-! the model's pairing, in the heap -/
def ub (B : Nat → Int) (sd : Nat) : Nat → Int := fun i => B (32 * sd + i)
def KrA (h : HP) (p N : Nat) (Bg En Cn pr td : Nat → Int) : Prop := ModA h p N ∧ LsA h Bg En Cn ∧ h 401 = ar 0 32 pr ∧ h 402 = ar 3 32 td
theorem KrA.upr {h : HP} {p N : Nat} {Bg En Cn pr td q : Nat → Int} (a : KrA h p N Bg En Cn pr td) : KrA (up h 401 (ar 0 32 q)) p N Bg En Cn q td := ⟨a.1.keep (up_n _ _ (by omega)), ⟨(up_n _ _ (by omega)).trans a.2.1.1, (up_n _ _ (by omega)).trans a.2.1.2.1, (up_n _ _ (by omega)).trans a.2.1.2.2⟩, up_s _ _ _, (up_n _ _ (by omega)).trans a.2.2.2⟩
theorem KrA.utd {h : HP} {p N : Nat} {Bg En Cn pr td q : Nat → Int} (a : KrA h p N Bg En Cn pr td) : KrA (up h 402 (ar 3 32 q)) p N Bg En Cn pr q := ⟨a.1.keep (up_n _ _ (by omega)), ⟨(up_n _ _ (by omega)).trans a.2.1.1, (up_n _ _ (by omega)).trans a.2.1.2.1, (up_n _ _ (by omega)).trans a.2.1.2.2⟩, (up_n _ _ (by omega)).trans a.2.2.1, up_s _ _ _⟩
theorem KrA.of {h h' : HP} {p N : Nat} {Bg En Cn pr td pr' td' : Nat → Int} (a : KrA h p N Bg En Cn pr td) (f : Fr h h' 401 402) (e1 : h' 401 = ar 0 32 pr') (e2 : h' 402 = ar 3 32 td') : KrA h' p N Bg En Cn pr' td' := ⟨a.1.keep (f _ (by omega)), ⟨(f _ (by omega)).trans a.2.1.1, (f _ (by omega)).trans a.2.1.2.1, (f _ (by omega)).trans a.2.1.2.2⟩, e1, e2⟩

set_option maxRecDepth 4000 in
theorem m_cost {G : GL} {d : Nat} {hp : HP} {sz : Nat} {p N : Nat} (hz : 615 ≤ sz) {sd : Nat} (hsd : sd < 2) {Bg En Cn : Nat → Int} {c1 c2 : Nat} (hc1 : c1 ≤ 32) (hc2 : c2 ≤ 32) (r1 : rg8 (ub Bg sd) (ub En sd) c1) (r2 : rg8 (ub Bg (1 - sd)) (ub En (1 - sd)) c2) {pr td : Nat → Int} (ka : KrA hp p N Bg En Cn pr td) {i k : Nat} (hi : i < c1) (hk : k < c2) : Ct G (d + 1) 0 0 mX7_cost [vr 92, vi sd, vi i, vi k] hp sz (Rd (some (vi (csp (ub Bg sd) (ub En sd) (ub Bg (1 - sd)) (ub En (1 - sd)) i k))) hp sz) := by
  show Ex _ _ _ _ _ _ [vr 92, vi sd, vi i, vi k, vu, vu] _ _ _ _
  obtain ⟨C, ⟨LB, LE, LC⟩, LP, LT⟩ := id ka
  obtain ⟨C0, C1, C2, C3, C4, C5, C6, C7, C8, C11, C12, C13, C14, C15, C16, C17, C18, C19, C20, C21, C22, C23⟩ := id C
  have hob := C0.ob
  have q1 := r1 i hi
  have q2 := r2 k hk
  unfold ub at q1 q2
  refine x_bipush (pc := 0) dX7_cost_0 (by decide) ?_
  refine x_iload_n (pc := 2) dX7_cost_2 rfl ?_
  refine x_imul (pc := 3) dX7_cost_3 ?_
  refine x_iload_n (pc := 4) dX7_cost_4 rfl ?_
  refine x_iadd (pc := 5) dX7_cost_5 ?_
  rw [show (32 : Int) * (sd : Int) + (i : Int) = ((32 * sd + i : Nat) : Int) by omega]
  refine x_istore (pc := 6) dX7_cost_6 (by decide) rfl ?_
  show Ex _ _ _ _ _ _ [_, _, _, _, _, _] _ _ _ _
  refine x_bipush (pc := 8) dX7_cost_8 (by decide) ?_
  refine x_iconst (pc := 10) dX7_cost_10 ?_
  refine x_iload_n (pc := 11) dX7_cost_11 rfl ?_
  refine x_isub (pc := 12) dX7_cost_12 ?_
  rw [show (1 : Int) - (sd : Int) = ((1 - sd : Nat) : Int) by omega]
  refine x_imul (pc := 13) dX7_cost_13 ?_
  refine x_iload_n (pc := 14) dX7_cost_14 rfl ?_
  refine x_iadd (pc := 15) dX7_cost_15 ?_
  rw [show (32 : Int) * ((1 - sd : Nat) : Int) + (k : Int) = ((32 * (1 - sd) + k : Nat) : Int) by omega]
  refine x_istore (pc := 16) dX7_cost_16 (by decide) rfl ?_
  show Ex _ _ _ _ _ _ [_, _, _, _, _, _] _ _ _ _
  refine x_iconst (pc := 18) dX7_cost_18 ?_
  refine x_aload_n (pc := 19) dX7_cost_19 rfl ?_
  refine x_gf (pc := 20) dX7_cost_20 fX7_48 (by assumption) (by omega) ?_
  refine x_iload (pc := 23) dX7_cost_23 rfl ?_
  refine x_il (pc := 25) dX7_cost_25 (by assumption) (by omega) rfl (by omega) ?_
  refine x_aload_n (pc := 26) dX7_cost_26 rfl ?_
  refine x_gf (pc := 27) dX7_cost_27 fX7_48 (by assumption) (by omega) ?_
  refine x_iload (pc := 30) dX7_cost_30 rfl ?_
  refine x_il (pc := 32) dX7_cost_32 (by assumption) (by omega) rfl (by omega) ?_
  refine x_isub (pc := 33) dX7_cost_33 ?_
  refine x_t1 (pc := 34) dX7_cost_34 wJ9_abs_0f7a4 sJ9_abs_0f7a4 kX7_187 (by decide) rfl (Nat.le_of_ble_eq_true rfl) (t_abs (by omega)) ?_
  refine x_aload_n (pc := 37) dX7_cost_37 rfl ?_
  refine x_gf (pc := 38) dX7_cost_38 fX7_51 (by assumption) (by omega) ?_
  refine x_iload (pc := 41) dX7_cost_41 rfl ?_
  refine x_il (pc := 43) dX7_cost_43 (by assumption) (by omega) rfl (by omega) ?_
  refine x_aload_n (pc := 44) dX7_cost_44 rfl ?_
  refine x_gf (pc := 45) dX7_cost_45 fX7_51 (by assumption) (by omega) ?_
  refine x_iload (pc := 48) dX7_cost_48 rfl ?_
  refine x_il (pc := 50) dX7_cost_50 (by assumption) (by omega) rfl (by omega) ?_
  refine x_isub (pc := 51) dX7_cost_51 ?_
  refine x_t1 (pc := 52) dX7_cost_52 wJ9_abs_0f7a4 sJ9_abs_0f7a4 kX7_187 (by decide) rfl (Nat.le_of_ble_eq_true rfl) (t_abs (by omega)) ?_
  refine x_t2 (pc := 55) dX7_cost_55 wJ9_max_7cf53 sJ9_max_7cf53 kX7_90 (by decide) rfl (Nat.le_of_ble_eq_true rfl) (t_max (by omega) (by omega)) ?_
  refine x_imul (pc := 58) dX7_cost_58 ?_
  refine x_iret (pc := 59) dX7_cost_59 rfl ⟨rfl, rfl, rfl⟩

set_option maxRecDepth 4000 in
theorem k_finds {G : GL} {d u : Nat} {sz p N : Nat} (hz : 615 ≤ sz) {sd : Nat} (hsd : sd < 2) {Bg En Cn : Nat → Int} {c1 c2 : Nat} (hc1 : c1 ≤ 32) (hc2 : c2 ≤ 32) (r1 : rg8 (ub Bg sd) (ub En sd) c1) (r2 : rg8 (ub Bg (1 - sd)) (ub En (1 - sd)) c2) (hcn : Cn (1 - sd) = (c2 : Int)) {most : Nat} (hmo : most ≤ 8) {pr : Nat → Int} (hrec : ∀ (hp : HP) (x : Nat) (td2 : Nat → Int), x < c1 → KrA hp p N Bg En Cn pr td2 → (∀ k, td2 k = 0 ∨ td2 k = 1) → K0 (fun i o => csp (ub Bg sd) (ub En sd) (ub Bg (1 - sd)) (ub En (1 - sd)) i o ≤ (most : Int)) c1 c2 x pr td2 → tz td2 c2 + 1 ≤ u → Ct G (d + u + 1) 0 0 mX7_finds [vr 92, vi sd, vi x, vi most] hp sz (Vs (fun v h => Fr hp h 401 402 ∧ ∃ (r : Bool) (pr' td' : Nat → Int), v = vi (bz r) ∧ h 401 = ar 0 32 pr' ∧ h 402 = ar 3 32 td' ∧ (∀ k, td' k = 0 ∨ td' k = 1) ∧ ((r = true ∧ KY (fun i o => csp (ub Bg sd) (ub En sd) (ub Bg (1 - sd)) (ub En (1 - sd)) i o ≤ (most : Int)) c1 c2 x pr td2 pr') ∨ (r = false ∧ pr' = pr ∧ KN (fun i o => csp (ub Bg sd) (ub En sd) (ub Bg (1 - sd)) (ub En (1 - sd)) i o ≤ (most : Int)) c2 x c2 pr td2 td'))) sz)) {hp0 : HP} {i : Nat} (hi : i < c1) {td : Nat → Int} (htz : tz td c2 ≤ u) (h0 : K0 (fun i o => csp (ub Bg sd) (ub En sd) (ub Bg (1 - sd)) (ub En (1 - sd)) i o ≤ (most : Int)) c1 c2 i pr td) : ∀ k, k ≤ c2 → ∀ (hp : HP) (td1 : Nat → Int), KrA hp p N Bg En Cn pr td1 → Fr hp0 hp 401 402 → KN (fun i o => csp (ub Bg sd) (ub En sd) (ub Bg (1 - sd)) (ub En (1 - sd)) i o ≤ (most : Int)) c2 i k pr td td1 → (∀ k, td1 k = 0 ∨ td1 k = 1) → Ex G (d + u + 2) 0 0 mX7_finds 3 [vr 92, vi sd, vi i, vi most, vi k] [] hp sz (Vs (fun v h => Fr hp0 h 401 402 ∧ ∃ (r : Bool) (pr' td' : Nat → Int), v = vi (bz r) ∧ h 401 = ar 0 32 pr' ∧ h 402 = ar 3 32 td' ∧ (∀ k, td' k = 0 ∨ td' k = 1) ∧ ((r = true ∧ KY (fun i o => csp (ub Bg sd) (ub En sd) (ub Bg (1 - sd)) (ub En (1 - sd)) i o ≤ (most : Int)) c1 c2 i pr td pr') ∨ (r = false ∧ pr' = pr ∧ KN (fun i o => csp (ub Bg sd) (ub En sd) (ub Bg (1 - sd)) (ub En (1 - sd)) i o ≤ (most : Int)) c2 i c2 pr td td'))) sz) := by
  refine down (fun hp td1 ka ff kn h01 => ?_) (fun k hk ih hp td1 ka ff kn h01 => ?_)
  · obtain ⟨C, ⟨LB, LE, LC⟩, LP, LT⟩ := id ka
    obtain ⟨C0, C1, C2, C3, C4, C5, C6, C7, C8, C11, C12, C13, C14, C15, C16, C17, C18, C19, C20, C21, C22, C23⟩ := id C
    have hob := C0.ob
    refine x_iload (pc := 3) dX7_finds_3 rfl ?_
    refine x_aload_n (pc := 5) dX7_finds_5 rfl ?_
    refine x_gf (pc := 6) dX7_finds_6 fX7_54 (by assumption) (by omega) ?_
    refine x_iconst (pc := 9) dX7_finds_9 ?_
    refine x_iload_n (pc := 10) dX7_finds_10 rfl ?_
    refine x_isub (pc := 11) dX7_finds_11 ?_
    rw [show (1 : Int) - (sd : Int) = ((1 - sd : Nat) : Int) by omega]
    refine x_il (pc := 12) dX7_finds_12 (by assumption) (by omega) rfl (by omega) ?_
    rw [hcn]
    refine x_icmp_ge (pc := 13) (tgt := 95) dX7_finds_13 (by decide) (by omega) (by omega) (fun c13 => ?_) (fun c13 => ?_)
    · refine x_iconst (pc := 95) dX7_finds_95 ?_
      refine x_zret (pc := 96) dX7_finds_96 rfl (Or.inl rfl) ⟨_, rfl, rfl, ff, false, pr, td1, rfl, LP, LT, h01, Or.inr ⟨rfl, rfl, kn⟩⟩
    · exact absurd c13 (by omega)
  · obtain ⟨C, ⟨LB, LE, LC⟩, LP, LT⟩ := id ka
    obtain ⟨C0, C1, C2, C3, C4, C5, C6, C7, C8, C11, C12, C13, C14, C15, C16, C17, C18, C19, C20, C21, C22, C23⟩ := id C
    have hob := C0.ob
    refine x_iload (pc := 3) dX7_finds_3 rfl ?_
    refine x_aload_n (pc := 5) dX7_finds_5 rfl ?_
    refine x_gf (pc := 6) dX7_finds_6 fX7_54 (by assumption) (by omega) ?_
    refine x_iconst (pc := 9) dX7_finds_9 ?_
    refine x_iload_n (pc := 10) dX7_finds_10 rfl ?_
    refine x_isub (pc := 11) dX7_finds_11 ?_
    rw [show (1 : Int) - (sd : Int) = ((1 - sd : Nat) : Int) by omega]
    refine x_il (pc := 12) dX7_finds_12 (by assumption) (by omega) rfl (by omega) ?_
    rw [hcn]
    refine x_icmp_ge (pc := 13) (tgt := 95) dX7_finds_13 (by decide) (by omega) (by omega) (fun c13 => ?_) (fun c13 => ?_)
    · exact absurd c13 (by omega)
    · refine x_aload_n (pc := 16) dX7_finds_16 rfl ?_
      refine x_gf (pc := 17) dX7_finds_17 fX7_60 (by assumption) (by omega) ?_
      refine x_iload (pc := 20) dX7_finds_20 rfl ?_
      refine x_zl (pc := 22) dX7_finds_22 (by assumption) (by omega) rfl (by omega) ?_
      refine x_if_ne (pc := 23) (tgt := 89) dX7_finds_23 (by decide) (by rcases h01 k with q | q <;> omega) (fun c23 => ?_) (fun c23 => ?_)
      · refine x_iinc (pc := 89) dX7_finds_89 rfl (by decide) rfl ?_
        show Ex _ _ _ _ _ _ [_, _, _, _, _] _ _ _ _
        refine x_goto (pc := 92) (tgt := 3) dX7_finds_92 (by decide) ?_
        first
          | exact ih _ _ ka ff (kn.skip (fun _ => by omega)) h01
          | exact ih _ _ ka ff (kn.skip (fun q => absurd q (by omega))) h01
          | (obtain ⟨-, e9, k9⟩ := g4
             subst e9
             exact ih _ _ ka3 ff3 (kn.fail hk x2 k9) g3)
      · refine x_aload_n (pc := 26) dX7_finds_26 rfl ?_
        refine x_iload_n (pc := 27) dX7_finds_27 rfl ?_
        refine x_iload_n (pc := 28) dX7_finds_28 rfl ?_
        refine x_iload (pc := 29) dX7_finds_29 rfl ?_
        refine x_w3 (pc := 31) dX7_finds_31 wX7_cost iX7_cost kX7_190 (by decide) rfl (Nat.le_of_ble_eq_true rfl) (by assumption) (by omega) (m_cost (d := d + u) hz hsd hc1 hc2 r1 r2 ka hi hk) ?_
        refine x_iload_n (pc := 34) dX7_finds_34 rfl ?_
        refine x_icmp_le (pc := 35) (tgt := 41) dX7_finds_35 (by decide) (by have := csp_rg r1 r2 hi hk; omega) (by omega) (fun c35 => ?_) (fun c35 => ?_)
        · refine x_aload_n (pc := 41) dX7_finds_41 rfl ?_
          refine x_gf (pc := 42) dX7_finds_42 fX7_60 (by assumption) (by omega) ?_
          refine x_iload (pc := 45) dX7_finds_45 rfl ?_
          refine x_iconst (pc := 47) dX7_finds_47 ?_
          refine x_zs (pc := 48) dX7_finds_48 (by assumption) (by omega) rfl (by omega) (Or.inr rfl) ?_
          have ht9 : td1 k = 0 := by omega
          have ka2 := ka.utd (q := up td1 k 1)
          have ff2 : Fr hp0 (up hp 402 (ar 3 32 (up td1 k 1))) 401 402 := ff.up (by omega) (by omega)
          have z2 : ∀ j, up td1 k 1 j = 0 ∨ up td1 k 1 j = 1 := fun j => by
            by_cases q : j = k
            · rw [q, up_s]; exact Or.inr rfl
            · rw [up_n _ _ q]; exact h01 j
          have hpk := h0.1 k hk
          obtain ⟨C, ⟨LB, LE, LC⟩, LP, LT⟩ := id ka2
          obtain ⟨C0, C1, C2, C3, C4, C5, C6, C7, C8, C11, C12, C13, C14, C15, C16, C17, C18, C19, C20, C21, C22, C23⟩ := id C
          have hob2 := C0.ob
          refine x_aload_n (pc := 49) dX7_finds_49 rfl ?_
          refine x_gf (pc := 50) dX7_finds_50 fX7_57 (by assumption) (by omega) ?_
          refine x_iload (pc := 53) dX7_finds_53 rfl ?_
          refine x_il (pc := 55) dX7_finds_55 (by assumption) (by omega) rfl (by omega) ?_
          refine x_iconst (pc := 56) dX7_finds_56 ?_
          refine x_icmp_eq (pc := 57) (tgt := 79) dX7_finds_57 (by decide) (by rcases hpk with q | ⟨j, j1, j2, j3⟩ <;> omega) (by omega) (fun c57 => ?_) (fun c57 => ?_)
          · refine x_aload_n (pc := 79) dX7_finds_79 rfl ?_
            refine x_gf (pc := 80) dX7_finds_80 fX7_57 (by assumption) (by omega) ?_
            refine x_iload (pc := 83) dX7_finds_83 rfl ?_
            refine x_iload_n (pc := 85) dX7_finds_85 rfl ?_
            refine x_is (pc := 86) dX7_finds_86 (by assumption) (by omega) rfl (by omega) ?_
            refine x_iconst (pc := 87) dX7_finds_87 ?_
            refine x_zret (pc := 88) dX7_finds_88 rfl (Or.inr rfl) (by
              first
              | exact ⟨_, rfl, rfl, ff3.up (by omega) (by omega), true, _, _, rfl, up_s _ _ _, (up_n _ _ (by omega)).trans LT, g3, Or.inl ⟨rfl, KY.deep h0 kn hi hk ht9 (by omega) x2 g4.2⟩⟩
              | exact ⟨_, rfl, rfl, ff2.up (by omega) (by omega), true, _, _, rfl, up_s _ _ _, (up_n _ _ (by omega)).trans LT, z2, Or.inl ⟨rfl, KY.free h0 kn hi hk ht9 (by omega) (by omega)⟩⟩)
          · obtain ⟨x, x1, x2, x3⟩ := hpk.resolve_left (by omega)
            obtain ⟨x4, x5⟩ := kn.deep h0 hk ht9 x2
            refine x_aload_n (pc := 60) dX7_finds_60 rfl ?_
            refine x_iload_n (pc := 61) dX7_finds_61 rfl ?_
            refine x_aload_n (pc := 62) dX7_finds_62 rfl ?_
            refine x_gf (pc := 63) dX7_finds_63 fX7_57 (by assumption) (by omega) ?_
            refine x_iload (pc := 66) dX7_finds_66 rfl ?_
            refine x_il (pc := 68) dX7_finds_68 (by assumption) (by omega) rfl (by omega) ?_
            rw [x2]
            refine x_iload_n (pc := 69) dX7_finds_69 rfl ?_
            refine x_y3 (pc := 70) dX7_finds_70 wX7_finds iX7_finds kX7_193 (by decide) rfl (Nat.le_of_ble_eq_true rfl) (by assumption) (by omega) (hrec _ x _ x4 ka2 z2 x5 (Nat.le_trans (tz_lt c2 hk ht9) (Nat.le_trans (tz_le c2 kn.1) htz))) (fun v70 h70 e70 => ?_)
            obtain ⟨f70, r70, pr3, td3, rfl, g1, g2, g3, g4⟩ := e70
            have ka3 := ka2.of f70 g1 g2
            have ff3 := ff2.tr f70
            obtain ⟨C, ⟨LB, LE, LC⟩, LP, LT⟩ := id ka3
            obtain ⟨C0, C1, C2, C3, C4, C5, C6, C7, C8, C11, C12, C13, C14, C15, C16, C17, C18, C19, C20, C21, C22, C23⟩ := id C
            have hob3 := C0.ob
            refine x_if_ne (pc := 73) (tgt := 79) dX7_finds_73 (by decide) (bz_rg _) (fun c73 => ?_) (fun c73 => ?_)
            · replace g4 := g4.resolve_right (fun q => by rw [q.1] at c73; exact absurd rfl c73)
              refine x_aload_n (pc := 79) dX7_finds_79 rfl ?_
              refine x_gf (pc := 80) dX7_finds_80 fX7_57 (by assumption) (by omega) ?_
              refine x_iload (pc := 83) dX7_finds_83 rfl ?_
              refine x_iload_n (pc := 85) dX7_finds_85 rfl ?_
              refine x_is (pc := 86) dX7_finds_86 (by assumption) (by omega) rfl (by omega) ?_
              refine x_iconst (pc := 87) dX7_finds_87 ?_
              refine x_zret (pc := 88) dX7_finds_88 rfl (Or.inr rfl) (by
                first
                | exact ⟨_, rfl, rfl, ff3.up (by omega) (by omega), true, _, _, rfl, up_s _ _ _, (up_n _ _ (by omega)).trans LT, g3, Or.inl ⟨rfl, KY.deep h0 kn hi hk ht9 (by omega) x2 g4.2⟩⟩
                | exact ⟨_, rfl, rfl, ff2.up (by omega) (by omega), true, _, _, rfl, up_s _ _ _, (up_n _ _ (by omega)).trans LT, z2, Or.inl ⟨rfl, KY.free h0 kn hi hk ht9 (by omega) (by omega)⟩⟩)
            · replace g4 := g4.resolve_left (fun q => by rw [q.1] at c73; exact absurd c73 (by decide))
              refine x_goto (pc := 76) (tgt := 89) dX7_finds_76 (by decide) ?_
              refine x_iinc (pc := 89) dX7_finds_89 rfl (by decide) rfl ?_
              show Ex _ _ _ _ _ _ [_, _, _, _, _] _ _ _ _
              refine x_goto (pc := 92) (tgt := 3) dX7_finds_92 (by decide) ?_
              first
                | exact ih _ _ ka ff (kn.skip (fun _ => by omega)) h01
                | exact ih _ _ ka ff (kn.skip (fun q => absurd q (by omega))) h01
                | (obtain ⟨-, e9, k9⟩ := g4
                   subst e9
                   exact ih _ _ ka3 ff3 (kn.fail hk x2 k9) g3)
        · refine x_goto (pc := 38) (tgt := 89) dX7_finds_38 (by decide) ?_
          refine x_iinc (pc := 89) dX7_finds_89 rfl (by decide) rfl ?_
          show Ex _ _ _ _ _ _ [_, _, _, _, _] _ _ _ _
          refine x_goto (pc := 92) (tgt := 3) dX7_finds_92 (by decide) ?_
          first
            | exact ih _ _ ka ff (kn.skip (fun _ => by omega)) h01
            | exact ih _ _ ka ff (kn.skip (fun q => absurd q (by omega))) h01
            | (obtain ⟨-, e9, k9⟩ := g4
               subst e9
               exact ih _ _ ka3 ff3 (kn.fail hk x2 k9) g3)

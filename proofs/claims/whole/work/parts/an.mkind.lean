/-! the model's determinant and kind -/
theorem DT_abs (P : Nat → Nat) (H : Nat) {n : Nat} (hn : n ≤ 9) : (DT P (bt H) n (fun _ => 2) (fun _ => 1)).natAbs ≤ 185794560 :=
  Nat.le_trans (det_abs _ _ (fun i j => tw_abs P _ _)) (fb_9 (Nat.le_trans (cb_le _ _) hn))

set_option maxRecDepth 4000 in
theorem m_determinant {G : GL} {d : Nat} {hp : HP} {sz : Nat} {pa : Nat → Int} {P : Nat → Nat} {n : Nat} (hn : 1 ≤ n ∧ n ≤ 9) (hpn : ∀ j, 1 ≤ j → j < n → pa j = (P j : Int) ∧ P j < j) {p N : Nat} (C : ModA hp p N) (hz : 615 ≤ sz) (ua : hp 413 = ar 0 9 pa) {H : Nat} (hH : H < 512) {r : Nat → Nat} {g : Nat → Nat → Int} (sq : SqX hp r g) : Ct G (d + 1) 0 0 mX7_determinant [vr 92, vi n, vi H] hp sz (Vs (fun v h => v = vl (DT P (bt H) n (fun _ => 2) (fun _ => 1)) ∧ ModA h p N ∧ Fr hp h 403 412 ∧ ∃ r g, SqX h r g) sz) := by
  show Ex _ _ _ _ _ _ [vr 92, vi n, vi H, vu, vu, vu, vu, vu, vu, vu, vu, vu] _ _ _ _
  obtain ⟨C0, C1, C2, C3, C4, C5, C6, C7, C8, C11, C12, C13, C14, C15, C16, C17, C18, C19, C20, C21, C22, C23⟩ := id C
  have hob := C0.ob
  refine x_iconst (pc := 0) dX7_determinant_0 ?_
  refine x_istore_n (pc := 1) dX7_determinant_1 (by decide) rfl ?_
  show Ex _ _ _ _ _ _ [_, _, _, _, _, _, _, _, _, _, _, _] _ _ _ _
  refine x_iconst (pc := 2) dX7_determinant_2 ?_
  refine x_istore (pc := 3) dX7_determinant_3 (by decide) rfl ?_
  show Ex _ _ _ _ _ _ [_, _, _, _, _, _, _, _, _, _, _, _] _ _ _ _
  refine k_dfo (p := p) (N := N) hz hn hpn hH (hp0 := hp) (fun hp1 g1 l5 l6 C1 ua1 sq1 ff1 hg1 => ?_) 0 (by omega) _ _ _ _ C ua sq Fr.rf (fun a b ha => absurd ha (Nat.not_lt_zero _))
  refine x_lconst (pc := 86) dX7_determinant_86 ?_
  refine x_lstore (pc := 87) dX7_determinant_87 (by decide) rfl ?_
  show Ex _ _ _ _ _ _ [_, _, _, _, _, _, _, _, _, _, _, _] _ _ _ _
  refine x_lconst (pc := 89) dX7_determinant_89 ?_
  refine x_lstore (pc := 90) dX7_determinant_90 (by decide) rfl ?_
  show Ex _ _ _ _ _ _ [_, _, _, _, _, _, _, _, _, _, _, _] _ _ _ _
  refine x_iconst (pc := 92) dX7_determinant_92 ?_
  refine x_istore (pc := 93) dX7_determinant_93 (by decide) rfl ?_
  show Ex _ _ _ _ _ _ [_, _, _, _, _, _, _, _, _, _, _, _] _ _ _ _
  by_cases hM1 : 1 ≤ cb (bt H) n
  · exact k_ds hz (A := VE P (eb (bt H) n) (fun _ => 2) (fun _ => 1)) (fun i j => tw_abs P _ _) (M := cb (bt H) n) (Nat.le_trans (cb_le _ _) hn.2) hM1 (fun i j _ _ => tw_sym P _ _) (hp0 := hp) (fun h r g g1 g2 g3 => ⟨_, rfl, rfl, rfl, g1, g3, r, g, g2⟩) 0 (by omega) hp1 r g1 (fun i => i) 1 _ _ _ C1 sq1 ff1 (fun t ht => by rw [show t = 0 by omega]; show (1 : Int) ≠ 0; decide) (fun i hi => ⟨i, hi, rfl⟩) (Int.one_mul _).symm (Or.inl rfl) (fun a b h1 h2 h3 h4 => by rw [mn_1]; exact hg1 a b h2 h4)
  · have hM0 : cb (bt H) n = 0 := by omega
    obtain ⟨E0, E1, E2, E3, E4, E5, E6, E7, E8, E11, E12, E13, E14, E15, E16, E17, E18, E19, E20, E21, E22, E23⟩ := id C1
    have hob1 := E0.ob
    refine x_iload (pc := 95) dX7_determinant_95 rfl ?_
    refine x_iload_n (pc := 97) dX7_determinant_97 rfl ?_
    refine x_iconst (pc := 98) dX7_determinant_98 ?_
    refine x_isub (pc := 99) dX7_determinant_99 ?_
    refine x_icmp_ge (pc := 100) (tgt := 296) dX7_determinant_100 (by decide) (by omega) (by omega) (fun c100 => ?_) (fun c100 => ?_)
    · refine x_iload_n (pc := 296) dX7_determinant_296 rfl ?_
      refine x_if_ne (pc := 297) (tgt := 304) dX7_determinant_297 (by decide) (by omega) (fun c297 => ?_) (fun c297 => ?_)
      · exact absurd c297 (by omega)
      · refine x_lconst (pc := 300) dX7_determinant_300 ?_
        refine x_goto (pc := 301) (tgt := 319) dX7_determinant_301 (by decide) ?_
        refine x_lret (pc := 319) dX7_determinant_319 rfl ⟨_, rfl, rfl, by show vl _ = vl (det (cb (bt H) n) _); rw [hM0]; rfl, C1, ff1, r, g1, sq1⟩
    · exact absurd c100 (by omega)

theorem kd_val (P : Nat → Nat) : ∀ k a b, kd P k a b = 1 ∨ kd P k a b = 2 ∨ kd P k a b = 3
  | 0, a, b => by
    rw [kd]
    split
    · exact Or.inl rfl
    · split
      · exact Or.inr (Or.inl rfl)
      · exact Or.inr (Or.inr rfl)
  | k + 1, a, b => by
    rw [kd]
    split
    · exact Or.inr (Or.inr rfl)
    · exact kd_val P k _ _
def DH (P : Nat → Nat) (n H : Nat) : Int := DT P (bt H) n (fun _ => 2) (fun _ => 1)
theorem kdT_all {P : Nat → Nat} {n : Nat} (hn : 1 ≤ n) (hP : ∀ j, 1 ≤ j → j < n → P j < j) : (kdT P n ≠ 3 → ∀ H, 0 ≤ DH P n H) ∧ (kdT P n = 1 → ∀ H, 0 < DH P n H) ∧ (kdT P n = 2 → DH P n (2 ^ n - 1) = 0) ∧ (kdT P n = 3 → ∃ H, 1 ≤ H ∧ H < 2 ^ n ∧ DH P n H < 0) := by
  obtain ⟨m, rfl⟩ : ∃ m, n = m + 1 := ⟨n - 1, by omega⟩
  unfold kdT DH
  rw [Nat.add_sub_cancel]
  have hP' : ∀ i, 0 < i → i ≤ m → P i < i := fun i h1 h2 => hP i h1 (by omega)
  have hall := fun H => kd_ok P (bt H) m hP' (fun _ => 2) (fun _ => 1) (fun _ => 2) (fun _ => 1) (fun i _ => ⟨by omega, by omega, Int.le_refl _⟩)
  refine ⟨fun q H => (hall H q).1, fun q H => (hall H (by omega)).2 q, fun q => kd_full P _ m hP' (fun i hi => bt_full (m + 1) i (by omega)) _ _ q, fun q => ?_⟩
  obtain ⟨h, hh⟩ := kd_wild P m hP' (fun _ => 2) (fun _ => 1) (fun i _ => by omega) q
  have e : DT P (bt (hb (m + 1) h)) (m + 1) (fun _ => 2) (fun _ => 1) = DT P h (m + 1) (fun _ => 2) (fun _ => 1) := DT_hc P (m + 1) _ _ (fun i hi => hb_bt (m + 1) h i hi)
  refine ⟨hb (m + 1) h, ?_, hb_lt _ _, by rw [e]; exact hh⟩
  refine Nat.pos_of_ne_zero (fun z => ?_)
  rw [z] at e
  rw [DT_none P (bt 0) _ _ (m + 1) (fun i _ => by unfold bt; simp)] at e
  omega

theorem lc_ge {x : Int} (h : 0 ≤ lc x 0) : 0 ≤ x := by
  unfold lc at h
  split at h
  · omega
  · split at h <;> omega
theorem lc_lt {x : Int} (h : lc x 0 < 0) : x < 0 := by
  unfold lc at h
  split at h
  · omega
  · split at h <;> omega
theorem lc_le {x : Int} (h : lc x 0 ≤ 0) : x ≤ 0 := by
  unfold lc at h
  split at h
  · omega
  · split at h <;> omega
theorem lc_gt {x : Int} (h : 0 < lc x 0) : 0 < x := by
  unfold lc at h
  split at h
  · omega
  · split at h <;> omega
theorem k_kind {G : GL} {d sz p N : Nat} (hz : 615 ≤ sz) {pa : Nat → Int} {P : Nat → Nat} {n : Nat} (hn : 1 ≤ n ∧ n ≤ 9) (hpn : ∀ j, 1 ≤ j → j < n → pa j = (P j : Int) ∧ P j < j) {Y : Int} {hp0 : HP} {Q : Option AV → HP → Nat → Prop} (hq : ∀ h r g, ModA h p N → h 413 = ar 0 9 pa → SqX h r g → Fr hp0 h 403 412 → ∀ v, v = kdT P n → Q (some (vi v)) h sz) :
    ∀ H, H ≤ 2 ^ n → 1 ≤ H → ∀ (ab : Bool) l5 l6 hp r g, ModA hp p N → hp 413 = ar 0 9 pa → SqX hp r g → Fr hp0 hp 403 412 → (∀ H2, 1 ≤ H2 → H2 < H → 0 ≤ DH P n H2) → (ab = true → ∀ H2, 1 ≤ H2 → H2 < H → 0 < DH P n H2) → (ab = false → ∃ H2, DH P n H2 = 0) →  Ex G (d + 2) 0 0 mX7_kind 16 [vr 92, vi n, vi Y, vi (bz ab), vi H, l5, l6] [] hp sz Q := by
  have ka := kdT_all (P := P) hn.1 (fun j h1 h2 => (hpn j h1 h2).2)
  have pc2 : (2 : Int) ^ n = ((2 ^ n : Nat) : Int) := (Int.natCast_pow 2 n).symm
  have pw1 : 2 ^ n ≤ 512 := Nat.pow_le_pow_right (n := 2) (by decide) hn.2
  have pw0 : 2 ≤ 2 ^ n := Nat.pow_le_pow_right (n := 2) (i := 1) (by decide) hn.1
  refine down (fun h1 ab l5 l6 hp r g C ua sq ff i1 i2 i3 => ?_) (fun H hH ih h1 ab l5 l6 hp r g C ua sq ff i1 i2 i3 => ?_)
  · obtain ⟨C0, C1, C2, C3, C4, C5, C6, C7, C8, C11, C12, C13, C14, C15, C16, C17, C18, C19, C20, C21, C22, C23⟩ := id C
    have hob := C0.ob
    refine x_iload (pc := 16) dX7_kind_16 rfl ?_
    refine x_iconst (pc := 18) dX7_kind_18 ?_
    refine x_iload_n (pc := 19) dX7_kind_19 rfl ?_
    refine x_ishl1 (pc := 20) dX7_kind_20 (by omega) ?_
    rw [Int.toNat_natCast, pc2]
    refine x_icmp_ge (pc := 21) (tgt := 65) dX7_kind_21 (by decide) (by omega) (by omega) (fun c21 => ?_) (fun c21 => ?_)
    · refine x_iload_n (pc := 65) dX7_kind_65 rfl ?_
      refine x_if_eq (pc := 66) (tgt := 73) dX7_kind_66 (by decide) (by rcases bz_01 ab with h | h <;> rw [h] <;> decide) (fun c66 => ?_) (fun c66 => ?_)
      · refine x_iconst (pc := 73) dX7_kind_73 ?_
        refine x_iret (pc := 74) dX7_kind_74 rfl (hq _ _ _ C ua sq ff _ (by
          have kv := kd_val P (n - 1) (fun _ => 2) (fun _ => 1)
          have k3 : kdT P n ≠ 3 := fun z => by
            obtain ⟨H2, g1, g2, g3⟩ := ka.2.2.2 z
            have := i1 H2 g1 g2
            omega
          have kv2 : kdT P n = 1 ∨ kdT P n = 2 ∨ kdT P n = 3 := kv
          cases ab with
          | true =>
            have k2 : kdT P n ≠ 2 := fun z => by
              have := ka.2.2.1 z
              have := i2 rfl (2 ^ n - 1) (by omega) (by omega)
              omega
            first
              | (show (1 : Int) = _; omega)
              | exact absurd c66 (by decide)
          | false =>
            have k1 : kdT P n ≠ 1 := fun z => by
              obtain ⟨H2, g1⟩ := i3 rfl
              have := ka.2.1 z H2
              omega
            first
              | (show (2 : Int) = _; omega)
              | exact absurd rfl c66))
      · refine x_iconst (pc := 69) dX7_kind_69 ?_
        refine x_goto (pc := 70) (tgt := 74) dX7_kind_70 (by decide) ?_
        refine x_iret (pc := 74) dX7_kind_74 rfl (hq _ _ _ C ua sq ff _ (by
          have kv := kd_val P (n - 1) (fun _ => 2) (fun _ => 1)
          have k3 : kdT P n ≠ 3 := fun z => by
            obtain ⟨H2, g1, g2, g3⟩ := ka.2.2.2 z
            have := i1 H2 g1 g2
            omega
          have kv2 : kdT P n = 1 ∨ kdT P n = 2 ∨ kdT P n = 3 := kv
          cases ab with
          | true =>
            have k2 : kdT P n ≠ 2 := fun z => by
              have := ka.2.2.1 z
              have := i2 rfl (2 ^ n - 1) (by omega) (by omega)
              omega
            first
              | (show (1 : Int) = _; omega)
              | exact absurd c66 (by decide)
          | false =>
            have k1 : kdT P n ≠ 1 := fun z => by
              obtain ⟨H2, g1⟩ := i3 rfl
              have := ka.2.1 z H2
              omega
            first
              | (show (2 : Int) = _; omega)
              | exact absurd rfl c66))
    · exact absurd c21 (by omega)
  · obtain ⟨C0, C1, C2, C3, C4, C5, C6, C7, C8, C11, C12, C13, C14, C15, C16, C17, C18, C19, C20, C21, C22, C23⟩ := id C
    have hob := C0.ob
    refine x_iload (pc := 16) dX7_kind_16 rfl ?_
    refine x_iconst (pc := 18) dX7_kind_18 ?_
    refine x_iload_n (pc := 19) dX7_kind_19 rfl ?_
    refine x_ishl1 (pc := 20) dX7_kind_20 (by omega) ?_
    rw [Int.toNat_natCast, pc2]
    refine x_icmp_ge (pc := 21) (tgt := 65) dX7_kind_21 (by decide) (by omega) (by omega) (fun c21 => ?_) (fun c21 => ?_)
    · exact absurd c21 (by omega)
    · refine x_aload_n (pc := 24) dX7_kind_24 rfl ?_
      refine x_iload_n (pc := 25) dX7_kind_25 rfl ?_
      refine x_iload (pc := 26) dX7_kind_26 rfl ?_
      refine x_y2 (pc := 28) dX7_kind_28 wX7_determinant iX7_determinant kX7_213 (by decide) rfl (Nat.le_of_ble_eq_true rfl) (by assumption) (by omega) (m_determinant (d := d) hn hpn C hz ua (by omega) sq) (fun v28 h28 e28 => ?_)
      obtain ⟨e1, C9, ff9, r9, g9, sq9⟩ := e28
      subst e1
      rw [show DT P (bt H) n (fun _ => 2) (fun _ => 1) = DH P n H from rfl]
      have ua9 : h28 413 = ar 0 9 pa := (ff9 413 (by omega)).trans ua
      refine x_lstore (pc := 31) dX7_kind_31 (by decide) rfl ?_
      show Ex _ _ _ _ _ _ [_, _, _, _, _, _, _] _ _ _ _
      refine x_lload (pc := 33) dX7_kind_33 rfl ?_
      refine x_lconst (pc := 35) dX7_kind_35 ?_
      refine x_lcmp (pc := 36) dX7_kind_36 (by have := DT_abs P H hn.2; unfold DH; omega) (by decide) ?_
      refine x_if_ge (pc := 37) (tgt := 42) dX7_kind_37 (by decide) (lc_r32 _ _) (fun c37 => ?_) (fun c37 => ?_)
      · have hD0 := lc_ge c37
        refine x_iload_n (pc := 42) dX7_kind_42 rfl ?_
        refine x_if_eq (pc := 43) (tgt := 57) dX7_kind_43 (by decide) (by rcases bz_01 ab with h | h <;> rw [h] <;> decide) (fun c43 => ?_) (fun c43 => ?_)
        · have hab : ab = false := by cases ab with | false => rfl | true => exact absurd c43 (by decide)
          refine x_iconst (pc := 57) dX7_kind_57 ?_
          refine x_istore_n (pc := 58) dX7_kind_58 (by decide) rfl ?_
          show Ex _ _ _ _ _ _ [_, _, _, _, _, _, _] _ _ _ _
          refine x_iinc (pc := 59) dX7_kind_59 rfl (by decide) rfl ?_
          show Ex _ _ _ _ _ _ [_, _, _, _, _, _, _] _ _ _ _
          refine x_goto (pc := 62) (tgt := 16) dX7_kind_62 (by decide) ?_
          first
            | exact ih (by omega) true _ _ _ _ _ C9 ua9 sq9 (ff.tr ff9) (fun H2 h1 h2 => by
                by_cases e : H2 = H
                · rw [e]; exact hD0
                · exact i1 H2 h1 (by omega)) (fun _ H2 h1 h2 => by
                by_cases e : H2 = H
                · rw [e]; exact hD1
                · exact i2 hab H2 h1 (by omega)) (fun q => Bool.noConfusion q)
            | exact ih (by omega) false _ _ _ _ _ C9 ua9 sq9 (ff.tr ff9) (fun H2 h1 h2 => by
                by_cases e : H2 = H
                · rw [e]; exact hD0
                · exact i1 H2 h1 (by omega)) (fun q => Bool.noConfusion q) (fun _ => by
                first
                  | exact i3 hab
                  | exact ⟨H, Int.le_antisymm hD1 hD0⟩)
        · have hab : ab = true := by cases ab with | true => rfl | false => exact absurd rfl c43
          refine x_lload (pc := 46) dX7_kind_46 rfl ?_
          refine x_lconst (pc := 48) dX7_kind_48 ?_
          refine x_lcmp (pc := 49) dX7_kind_49 (by have := DT_abs P H hn.2; unfold DH; omega) (by decide) ?_
          refine x_if_le (pc := 50) (tgt := 57) dX7_kind_50 (by decide) (lc_r32 _ _) (fun c50 => ?_) (fun c50 => ?_)
          · have hD1 := lc_le c50
            refine x_iconst (pc := 57) dX7_kind_57 ?_
            refine x_istore_n (pc := 58) dX7_kind_58 (by decide) rfl ?_
            show Ex _ _ _ _ _ _ [_, _, _, _, _, _, _] _ _ _ _
            refine x_iinc (pc := 59) dX7_kind_59 rfl (by decide) rfl ?_
            show Ex _ _ _ _ _ _ [_, _, _, _, _, _, _] _ _ _ _
            refine x_goto (pc := 62) (tgt := 16) dX7_kind_62 (by decide) ?_
            first
              | exact ih (by omega) true _ _ _ _ _ C9 ua9 sq9 (ff.tr ff9) (fun H2 h1 h2 => by
                  by_cases e : H2 = H
                  · rw [e]; exact hD0
                  · exact i1 H2 h1 (by omega)) (fun _ H2 h1 h2 => by
                  by_cases e : H2 = H
                  · rw [e]; exact hD1
                  · exact i2 hab H2 h1 (by omega)) (fun q => Bool.noConfusion q)
              | exact ih (by omega) false _ _ _ _ _ C9 ua9 sq9 (ff.tr ff9) (fun H2 h1 h2 => by
                  by_cases e : H2 = H
                  · rw [e]; exact hD0
                  · exact i1 H2 h1 (by omega)) (fun q => Bool.noConfusion q) (fun _ => by
                  first
                    | exact i3 hab
                    | exact ⟨H, Int.le_antisymm hD1 hD0⟩)
          · have hD1 := lc_gt c50
            refine x_iconst (pc := 53) dX7_kind_53 ?_
            refine x_goto (pc := 54) (tgt := 58) dX7_kind_54 (by decide) ?_
            refine x_istore_n (pc := 58) dX7_kind_58 (by decide) rfl ?_
            show Ex _ _ _ _ _ _ [_, _, _, _, _, _, _] _ _ _ _
            refine x_iinc (pc := 59) dX7_kind_59 rfl (by decide) rfl ?_
            show Ex _ _ _ _ _ _ [_, _, _, _, _, _, _] _ _ _ _
            refine x_goto (pc := 62) (tgt := 16) dX7_kind_62 (by decide) ?_
            first
              | exact ih (by omega) true _ _ _ _ _ C9 ua9 sq9 (ff.tr ff9) (fun H2 h1 h2 => by
                  by_cases e : H2 = H
                  · rw [e]; exact hD0
                  · exact i1 H2 h1 (by omega)) (fun _ H2 h1 h2 => by
                  by_cases e : H2 = H
                  · rw [e]; exact hD1
                  · exact i2 hab H2 h1 (by omega)) (fun q => Bool.noConfusion q)
              | exact ih (by omega) false _ _ _ _ _ C9 ua9 sq9 (ff.tr ff9) (fun H2 h1 h2 => by
                  by_cases e : H2 = H
                  · rw [e]; exact hD0
                  · exact i1 H2 h1 (by omega)) (fun q => Bool.noConfusion q) (fun _ => by
                  first
                    | exact i3 hab
                    | exact ⟨H, Int.le_antisymm hD1 hD0⟩)
      · have hD0 := lc_lt c37
        refine x_iconst (pc := 40) dX7_kind_40 ?_
        refine x_iret (pc := 41) dX7_kind_41 rfl (hq _ _ _ C9 ua9 sq9 (ff.tr ff9) _ (by
          have kv2 : kdT P n = 1 ∨ kdT P n = 2 ∨ kdT P n = 3 := kd_val P (n - 1) (fun _ => 2) (fun _ => 1)
          by_cases z : kdT P n = 3
          · exact z.symm
          · have := ka.1 z H
            omega))

set_option maxRecDepth 4000 in
theorem m_kind {G : GL} {d : Nat} {hp : HP} {sz : Nat} {p N : Nat} (C : ModA hp p N) (hz : 615 ≤ sz) {pa : Nat → Int} (ua : hp 413 = ar 0 9 pa) {r : Nat → Nat} {g : Nat → Nat → Int} (sq : SqX hp r g) {x : Int} (hx : -2147483648 ≤ x ∧ x < 2147483648) {y : Int} (hy : -2147483648 ≤ y ∧ y < 2147483648) : Ct G (d + 2) 0 0 mX7_kind [vr 92, vi x, vi y] hp sz (Vs (fun v h => (isTr x y → v = vi (kdT (dg y.toNat) x.toNat)) ∧ (¬ isTr x y → v = vi (-1)) ∧ ModA h p N ∧ Fr hp h 403 413 ∧ (∃ r g, SqX h r g) ∧ ∃ pa1, h 413 = ar 0 9 pa1 ∧ (isTr x y → ∀ j, 1 ≤ j → j < x.toNat → pa1 j = (dg y.toNat j : Int))) sz) := by
  show Ex _ _ _ _ _ _ [vr 92, vi x, vi y, vu, vu, vu, vu] _ _ _ _
  obtain ⟨C0, C1, C2, C3, C4, C5, C6, C7, C8, C11, C12, C13, C14, C15, C16, C17, C18, C19, C20, C21, C22, C23⟩ := id C
  have hob := C0.ob
  refine x_aload_n (pc := 0) dX7_kind_0 rfl ?_
  refine x_iload_n (pc := 1) dX7_kind_1 rfl ?_
  refine x_iload_n (pc := 2) dX7_kind_2 rfl ?_
  refine x_y2 (pc := 3) dX7_kind_3 wX7_isTree iX7_isTree kX7_210 (by decide) rfl (Nat.le_of_ble_eq_true rfl) (by assumption) (by omega) (m_isTree (d := d) C hz ua hx hy) (fun v3 h3 e3 => ?_)
  obtain ⟨rb, e1, e2, C1, ff1, pa1, ua1, e3⟩ := e3
  subst e1
  have sq1 := sq.keep (h' := h3) (fun x h1 h2 => ff1 x (by omega))
  refine x_if_ne (pc := 6) (tgt := 11) dX7_kind_6 (by decide) (by rcases bz_01 rb with h | h <;> rw [h] <;> decide) (fun c6 => ?_) (fun c6 => ?_)
  · have hrb : rb = true := by cases rb with | true => rfl | false => exact absurd rfl c6
    refine x_iconst (pc := 11) dX7_kind_11 ?_
    refine x_istore_n (pc := 12) dX7_kind_12 (by decide) rfl ?_
    show Ex _ _ _ _ _ _ [_, _, _, _, _, _, _] _ _ _ _
    refine x_iconst (pc := 13) dX7_kind_13 ?_
    refine x_istore (pc := 14) dX7_kind_14 (by decide) rfl ?_
    show Ex _ _ _ _ _ _ [_, _, _, _, _, _, _] _ _ _ _
    have ht := e2.1 hrb
    obtain ⟨m, rfl⟩ : ∃ m : Nat, x = (m : Int) := ⟨x.toNat, (Int.toNat_of_nonneg (by have := ht.1; omega)).symm⟩
    have hn9 : 1 ≤ m ∧ m ≤ 9 := ⟨by have := ht.1; omega, by have := ht.2.1; omega⟩
    have hpn9 : ∀ j, 1 ≤ j → j < m → pa1 j = (dg y.toNat j : Int) ∧ dg y.toNat j < j := fun j h1 h2 => ⟨e3 hrb j h1 (by rw [Int.toNat_natCast]; exact h2), ht.2.2.2.1 j h1 (by rw [Int.toNat_natCast]; exact h2)⟩
    rw [Int.toNat_natCast]
    exact k_kind (d := d) hz hn9 hpn9 (hp0 := h3) (fun h r g g1 g2 g3 g4 v gv => ⟨_, rfl, rfl, fun _ => by rw [gv], fun q => absurd ht q, g1, (ff1.wide (by omega) (by omega)).tr (g4.wide (by omega) (by omega)), ⟨r, g, g3⟩, pa1, g2, fun _ j h1 h2 => (hpn9 j h1 h2).1⟩) 1 Nat.one_le_two_pow (Nat.le_refl _) true _ _ _ _ _ C1 ua1 sq1 Fr.rf (fun H2 h1 h2 => by omega) (fun _ H2 h1 h2 => by omega) (fun q => Bool.noConfusion q)
  · have hrb : rb = false := by cases rb with | false => rfl | true => exact absurd c6 (by decide)
    refine x_iconst (pc := 9) dX7_kind_9 ?_
    refine x_iret (pc := 10) dX7_kind_10 rfl ⟨_, rfl, rfl, fun q => absurd (e2.2 q) (by rw [hrb]; decide), fun _ => rfl, C1, ff1.wide (by omega) (by omega), ⟨r, g, sq1⟩, pa1, ua1, fun q => absurd (e2.2 q) (by rw [hrb]; decide)⟩

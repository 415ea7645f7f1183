theorem pw7 {N : Nat} (h : 1 ≤ N ∧ N ≤ 8) : (2 : Int) ^ (N - 1) ≤ 128 := by
  obtain ⟨h1, h2⟩ := h
  rcases (show N = 1 ∨ N = 2 ∨ N = 3 ∨ N = 4 ∨ N = 5 ∨ N = 6 ∨ N = 7 ∨ N = 8 by omega) with rfl | rfl | rfl | rfl | rfl | rfl | rfl | rfl <;> decide

theorem l_lay {G : GL} {d : Nat} {sz : Nat} {p N : Nat} (hz : 92 ≤ sz) (hN : 1 ≤ N ∧ N ≤ 8) {a w : Nat} (ha : 2 ≤ a ∧ a ≤ 23) {n : Nat → Int} {x y1 y2 : Int} (hx : 0 ≤ x ∧ x < 2147483648) {Q : Option AV → HP → Nat → Prop} : ∀ k, k ≤ N → ∀ (hp : HP) (s : Nat → Int), ClsA hp p N → Lay hp a s n w → (∀ h s1, ClsA h p N → Lay h a s1 n w → Fr hp h a (a + 2) → (∀ j, j < 8 → s1 j = if k ≤ j ∧ j < N then (x / 2 ^ (3 * j)) % 8 else s j) → Q (some (vi 1)) h sz) → Ex G (d + 1) 0 0 mX6_lay 43 [vr 0, vi y1, vi y2, vi x, vr a, vi k] [] hp sz Q := by
  refine down (fun hp s C L hq => ?_) (fun k hk ih hp s C L hq => ?_)
  · obtain ⟨C0, C1, C2, C3, C4, C5, C6, C7, C8, C9, g, gA, gB⟩ := id C
    refine x_iload (pc := 43) dX6_lay_43 rfl ?_
    refine x_aload_n (pc := 45) dX6_lay_45 rfl ?_
    refine x_gf (pc := 46) dX6_lay_46 fX6_26 (by assumption) (by omega) ?_
    refine x_icmp_ge (pc := 49) (tgt := 72) dX6_lay_49 (by decide) (by omega) (by omega) (fun c49 => ?_) (fun c49 => ?_)
    · refine x_iconst (pc := 72) dX6_lay_72 ?_
      refine x_zret (pc := 73) dX6_lay_73 rfl (Or.inr rfl) (hq hp s C L Fr.rf (fun j h1 => by rw [if_neg (by omega)]))
    · exact absurd c49 (by omega)
  · obtain ⟨C0, C1, C2, C3, C4, C5, C6, C7, C8, C9, g, gA, gB⟩ := id C
    obtain ⟨L1, L2, L3, L4, L5⟩ := id L
    refine x_iload (pc := 43) dX6_lay_43 rfl ?_
    refine x_aload_n (pc := 45) dX6_lay_45 rfl ?_
    refine x_gf (pc := 46) dX6_lay_46 fX6_26 (by assumption) (by omega) ?_
    refine x_icmp_ge (pc := 49) (tgt := 72) dX6_lay_49 (by decide) (by omega) (by omega) (fun c49 => ?_) (fun c49 => ?_)
    · exact absurd c49 (by omega)
    · refine x_aload (pc := 52) dX6_lay_52 rfl ?_
      refine x_gn (pc := 54) dX6_lay_54 fX6_95 (by assumption) (by omega) ?_
      refine x_iload (pc := 57) dX6_lay_57 rfl ?_
      refine x_iload_n (pc := 59) dX6_lay_59 rfl ?_
      refine x_iload (pc := 60) dX6_lay_60 rfl ?_
      refine x_t2 (pc := 62) dX6_lay_62 wX6_sizeIn sX6_sizeIn kX6_99 (by decide) rfl (Nat.le_of_ble_eq_true rfl) (t_sizeIn hx (by omega)) ?_
      refine x_is (pc := 65) dX6_lay_65 (by assumption) (by omega) rfl (by omega) ?_
      refine x_iinc (pc := 66) dX6_lay_66 rfl (by decide) rfl ?_
      show Ex _ _ _ _ _ _ [_, _, _, _, _, _] _ _ _ _
      refine x_goto (pc := 69) (tgt := 43) dX6_lay_69 (by decide) ?_
      exact ih _ _ (C.keep (up_n _ _ (by omega)) (up_n _ _ (by omega))) (L.ups (s' := up s k (x / 2 ^ (3 * k) % 8))) (fun h s1 C1 l1 f1 e1 => hq h s1 C1 l1 ((Fr.rf.up (by omega) (by omega)).tr f1) (fun j hj => by
        rw [e1 j hj]
        by_cases e : j = k
        · subst e
          rw [if_neg (by omega), up_s, if_pos (by omega)]
        · rw [up_n _ _ e]
          by_cases e2 : k + 1 ≤ j ∧ j < N
          · rw [if_pos e2, if_pos (by omega)]
          · rw [if_neg e2, if_neg (by omega)]))

set_option maxRecDepth 4000 in
theorem t_lay6 {G : GL} {d : Nat} {hp : HP} {sz : Nat} {p N : Nat} (C : ClsA hp p N) (hz : 92 ≤ sz) (hN : 1 ≤ N ∧ N ≤ 8) {S T : Nat → Nat → Int} {W : Nat → Nat} (Ls : LysA hp S T W) {x : Int} (hx : -2147483648 ≤ x ∧ x < 2147483648) {y : Int} (hy : -2147483648 ≤ y ∧ y < 2147483648) {z : Int} (hz1 : -2147483648 ≤ z ∧ z < 2147483648) : Ct G (d + 2) 0 0 mX6_lay [vr 0, vi x, vi y, vi z] hp sz (Vs (fun r h => ((0 ≤ x ∧ x < 8 ∧ 0 ≤ y ∧ y < 2 ^ (N - 1) ∧ 0 ≤ z ∧ z < 2 ^ (3 * N) ∧ ∀ j, j < N → (z / 2 ^ (3 * j)) % 8 ≤ 4) ∧ r = vi 1 ∧ ClsA h p N ∧ Fr hp h 2 28 ∧ ∃ s1 n1, LysA h (up S x.toNat s1) (up T x.toNat n1) (up W x.toNat y.toNat) ∧ (∀ j, j < 8 → s1 j = if j < N then (z / 2 ^ (3 * j)) % 8 else 0) ∧ ∀ j, j < 112 → n1 j = 0) ∨ ((¬ (0 ≤ x ∧ x < 8 ∧ 0 ≤ y ∧ y < 2 ^ (N - 1) ∧ 0 ≤ z ∧ z < 2 ^ (3 * N) ∧ ∀ j, j < N → (z / 2 ^ (3 * j)) % 8 ≤ 4)) ∧ r = vi 0 ∧ h = hp)) sz) := by
  show Ex _ _ _ _ _ _ [vr 0, vi x, vi y, vi z, vu, vu] _ _ _ _
  obtain ⟨C0, C1, C2, C3, C4, C5, C6, C7, C8, C9, g, gA, gB⟩ := id C
  have hob := C0.ob
  have hp7 := pw7 hN
  refine x_aload_n (pc := 0) dX6_lay_0 rfl ?_
  refine x_iload_n (pc := 1) dX6_lay_1 rfl ?_
  refine x_w1 (pc := 2) dX6_lay_2 wX6_isLaying iX6_isLaying kX6_82 (by decide) rfl (Nat.le_of_ble_eq_true rfl) (by assumption) (by omega) (t_isLaying C hz hN hx) ?_
  refine x_if_eq (pc := 5) (tgt := 24) dX6_lay_5 (by decide) (bz_rg _) (fun c5 => ?_) (fun c5 => ?_)
  · have d1 := bz_e c5
    refine x_iconst (pc := 24) dX6_lay_24 ?_
    refine x_zret (pc := 25) dX6_lay_25 rfl (by omega) (by first | exact ⟨_, rfl, rfl, Or.inr ⟨fun h => absurd (hb.mpr ⟨h.2.2.2.2.1, h.2.2.2.2.2.1, h.2.2.2.2.2.2⟩) (by decide), rfl, rfl⟩⟩ | exact ⟨_, rfl, rfl, Or.inr ⟨fun h => absurd h.1 (by omega), rfl, rfl⟩⟩ | exact ⟨_, rfl, rfl, Or.inr ⟨fun h => absurd h.2.1 (by omega), rfl, rfl⟩⟩ | exact ⟨_, rfl, rfl, Or.inr ⟨fun h => d1 ⟨h.1, h.2.1⟩, rfl, rfl⟩⟩ | exact ⟨_, rfl, rfl, Or.inr ⟨fun h => d2 ⟨h.2.2.1, h.2.2.2.1⟩, rfl, rfl⟩⟩)
  · have d1 := bz_n c5
    refine x_aload_n (pc := 8) dX6_lay_8 rfl ?_
    refine x_iload_n (pc := 9) dX6_lay_9 rfl ?_
    refine x_w1 (pc := 10) dX6_lay_10 wX6_areWays iX6_areWays kX6_86 (by decide) rfl (Nat.le_of_ble_eq_true rfl) (by assumption) (by omega) (t_areWays C hz hN hy) ?_
    refine x_if_eq (pc := 13) (tgt := 24) dX6_lay_13 (by decide) (bz_rg _) (fun c13 => ?_) (fun c13 => ?_)
    · have d2 := bz_e c13
      refine x_iconst (pc := 24) dX6_lay_24 ?_
      refine x_zret (pc := 25) dX6_lay_25 rfl (by omega) (by first | exact ⟨_, rfl, rfl, Or.inr ⟨fun h => absurd (hb.mpr ⟨h.2.2.2.2.1, h.2.2.2.2.2.1, h.2.2.2.2.2.2⟩) (by decide), rfl, rfl⟩⟩ | exact ⟨_, rfl, rfl, Or.inr ⟨fun h => absurd h.1 (by omega), rfl, rfl⟩⟩ | exact ⟨_, rfl, rfl, Or.inr ⟨fun h => absurd h.2.1 (by omega), rfl, rfl⟩⟩ | exact ⟨_, rfl, rfl, Or.inr ⟨fun h => d1 ⟨h.1, h.2.1⟩, rfl, rfl⟩⟩ | exact ⟨_, rfl, rfl, Or.inr ⟨fun h => d2 ⟨h.2.2.1, h.2.2.2.1⟩, rfl, rfl⟩⟩)
    · have d2 := bz_n c13
      refine x_aload_n (pc := 16) dX6_lay_16 rfl ?_
      refine x_iload_n (pc := 17) dX6_lay_17 rfl ?_
      refine x_y1 (pc := 18) dX6_lay_18 wX6_areSizes iX6_areSizes kX6_89 (by decide) rfl (Nat.le_of_ble_eq_true rfl) (by assumption) (by omega) (t_areSizes C hz hN hz1) (fun v18 h18 e18 => ?_)
      obtain ⟨rfl, b, rfl, hb⟩ := e18
      refine x_if_ne (pc := 21) (tgt := 26) dX6_lay_21 (by decide) (bz_rg _) (fun c21 => ?_) (fun c21 => ?_)
      · have b1 : b = true := by cases b <;> simp_all [bz]
        subst b1
        have hb1 := hb.mp rfl
        obtain ⟨L, hw⟩ := Ls x.toNat (by omega)
        have hoL := L.ob
        obtain ⟨l, rfl⟩ : ∃ l : Nat, x = (l : Int) := ⟨x.toNat, by omega⟩
        obtain ⟨w, rfl⟩ : ∃ w : Nat, y = (w : Int) := ⟨y.toNat, by omega⟩
        rw [Int.toNat_natCast] at L hoL
        simp only [Int.toNat_natCast]
        refine x_aload_n (pc := 26) dX6_lay_26 rfl ?_
        refine x_gf (pc := 27) dX6_lay_27 fX6_31 (by assumption) (by omega) ?_
        refine x_iload_n (pc := 30) dX6_lay_30 rfl ?_
        refine x_al (pc := 31) dX6_lay_31 (by assumption) (by omega) rfl (by omega) (gB _ (by omega)) ?_
        refine x_astore (pc := 32) dX6_lay_32 (by decide) rfl ?_
        show Ex _ _ _ _ _ _ [_, _, _, _, _, _] _ _ _ _
        refine x_aload (pc := 34) dX6_lay_34 rfl ?_
        refine x_iload_n (pc := 36) dX6_lay_36 rfl ?_
        refine x_p1 (pc := 37) dX6_lay_37 wX0_empty iX0_empty kX6_92 (by decide) rfl (Nat.le_of_ble_eq_true rfl) (by assumption) (by omega) (t_empty (x := w) L (by omega)) (fun h37 e37 => ?_)
        obtain ⟨f9, s2, n2, L2, e2, e3⟩ := e37
        have C9 := C.keep (f9 0 (by omega)) (f9 1 (by omega))
        refine x_iconst (pc := 40) dX6_lay_40 ?_
        refine x_istore (pc := 41) dX6_lay_41 (by decide) rfl ?_
        show Ex _ _ _ _ _ _ [_, _, _, _, _, _] _ _ _ _
        exact l_lay (a := 2 + 3 * l) hz hN (by omega) (by omega) 0 (by omega) h37 s2 C9 L2 (fun h s1 C1 l1 f1 e1 => ⟨_, rfl, rfl, Or.inl ⟨⟨by omega, by omega, by omega, by omega, hb1⟩, rfl, C1, (f9.tr f1).wide (by omega) (by omega), s1, n2, LysA.one Ls (by omega) (f9.tr f1) l1 (by omega), fun j hj => by
          rw [e1 j hj]
          by_cases e : j < N
          · rw [if_pos ⟨by omega, e⟩, if_pos e]
          · rw [if_neg (by omega), if_neg e]
            exact e2 j hj, e3⟩⟩)
      · have b0 : b = false := by cases b <;> simp_all [bz]
        subst b0
        refine x_iconst (pc := 24) dX6_lay_24 ?_
        refine x_zret (pc := 25) dX6_lay_25 rfl (by omega) (by first | exact ⟨_, rfl, rfl, Or.inr ⟨fun h => absurd (hb.mpr ⟨h.2.2.2.2.1, h.2.2.2.2.2.1, h.2.2.2.2.2.2⟩) (by decide), rfl, rfl⟩⟩ | exact ⟨_, rfl, rfl, Or.inr ⟨fun h => absurd h.1 (by omega), rfl, rfl⟩⟩ | exact ⟨_, rfl, rfl, Or.inr ⟨fun h => absurd h.2.1 (by omega), rfl, rfl⟩⟩ | exact ⟨_, rfl, rfl, Or.inr ⟨fun h => d1 ⟨h.1, h.2.1⟩, rfl, rfl⟩⟩ | exact ⟨_, rfl, rfl, Or.inr ⟨fun h => d2 ⟨h.2.2.1, h.2.2.2.1⟩, rfl, rfl⟩⟩)

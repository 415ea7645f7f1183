theorem k_lay1 {G : GL} {d : Nat} {hp : HP} {sz : Nat} {p N : Nat} (C : ModA hp p N) (hz : 615 ≤ sz) (hN : 1 ≤ N ∧ N ≤ 8) {x y z : Int} (hx : 0 ≤ z ∧ z < 2147483648) {Q : Option AV → HP → Nat → Prop} (hno : (¬ ∀ j, j < N → (z / 2 ^ (3 * j)) % 8 ≤ 4) → Q (some (vi 0)) hp sz) : ∀ k, k ≤ N → ((∀ j, k ≤ j → j < N → (z / 2 ^ (3 * j)) % 8 ≤ 4) → Ex G (d + 1) 0 0 mX7_lay 66 [vr 92, vi x, vi y, vi z, vi (N : Nat)] [] hp sz Q) → Ex G (d + 1) 0 0 mX7_lay 36 [vr 92, vi x, vi y, vi z, vi k] [] hp sz Q := by
  obtain ⟨C0, C1, C2, C3, C4, C5, C6, C7, C8, C11, C12, C13, C14, C15, C16, C17, C18, C19, C20, C21, C22, C23⟩ := id C
  have hob := C0.ob
  refine down (fun hq => ?_) (fun k hk ih hq => ?_)
  · refine x_iload (pc := 36) dX7_lay_36 rfl ?_
    refine x_aload_n (pc := 38) dX7_lay_38 rfl ?_
    refine x_gf (pc := 39) dX7_lay_39 fX7_93 (by assumption) (by omega) ?_
    refine x_icmp_ge (pc := 42) (tgt := 66) dX7_lay_42 (by decide) (by omega) (by omega) (fun c42 => ?_) (fun c42 => ?_)
    · exact hq (fun j h1 h2 => absurd h2 (by omega))
    · exact absurd c42 (by omega)
  · refine x_iload (pc := 36) dX7_lay_36 rfl ?_
    refine x_aload_n (pc := 38) dX7_lay_38 rfl ?_
    refine x_gf (pc := 39) dX7_lay_39 fX7_93 (by assumption) (by omega) ?_
    refine x_icmp_ge (pc := 42) (tgt := 66) dX7_lay_42 (by decide) (by omega) (by omega) (fun c42 => ?_) (fun c42 => ?_)
    · exact absurd c42 (by omega)
    · refine x_iload_n (pc := 45) dX7_lay_45 rfl ?_
      refine x_iconst (pc := 46) dX7_lay_46 ?_
      refine x_iload (pc := 47) dX7_lay_47 rfl ?_
      refine x_imul (pc := 49) dX7_lay_49 ?_
      refine x_ishr (pc := 50) dX7_lay_50 (by omega) (by omega) ?_
      rw [show ((3 : Int) * (k : Int)).toNat = 3 * k by omega]
      refine x_bipush (pc := 51) dX7_lay_51 (by decide) ?_
      refine x_iand 3 (pc := 53) dX7_lay_53 (by decide) (by decide +kernel) ?_
      have hm8 := Int.emod_nonneg (z / 2 ^ (3 * k)) (show (2 ^ 3 : Int) ≠ 0 by decide)
      have hm9 := Int.emod_lt_of_pos (z / 2 ^ (3 * k)) (show (0 : Int) < 2 ^ 3 by decide)
      rw [show (2 : Int) ^ 3 = 8 by decide] at hm8 hm9 ⊢
      refine x_iconst (pc := 54) dX7_lay_54 ?_
      refine x_icmp_le (pc := 55) (tgt := 60) dX7_lay_55 (by decide) (by omega) (by omega) (fun c55 => ?_) (fun c55 => ?_)
      · refine x_iinc (pc := 60) dX7_lay_60 rfl (by decide) rfl ?_
        show Ex _ _ _ _ _ _ [_, _, _, _, _] _ _ _ _
        refine x_goto (pc := 63) (tgt := 36) dX7_lay_63 (by decide) ?_
        exact ih (fun h => hq (fun j h1 h2 => by
          by_cases e : j = k
          · subst e; omega
          · exact h j (by omega) h2))
      · refine x_iconst (pc := 58) dX7_lay_58 ?_
        refine x_zret (pc := 59) dX7_lay_59 rfl (Or.inl rfl) (hno (fun h => absurd (h k (by omega)) (by omega)))

theorem k_lay2 {G : GL} {d : Nat} {sz p N : Nat} (hz : 615 ≤ sz) (hN : 1 ≤ N ∧ N ≤ 8) {l : Nat} (hl : l < 8) {y z : Int} (hx : 0 ≤ z ∧ z < 2147483648) {W : Nat → Nat} {T : Nat → Int} {Q : Option AV → HP → Nat → Prop} : ∀ k, k ≤ N → ∀ (hp : HP) (S : Nat → Int), ModA hp p N → MdS hp W S T → (∀ h S1, ModA h p N → MdS h W S1 T → Fr hp h 93 95 → (∀ x, S1 x = if 8 * l + k ≤ x ∧ x < 8 * l + N then (z / 2 ^ (3 * (x - 8 * l))) % 8 else S x) → Q (some (vi 1)) h sz) → Ex G (d + 1) 0 0 mX7_lay 75 [vr 92, vi l, vi y, vi z, vi k] [] hp sz Q := by
  refine down (fun hp S C D hq => ?_) (fun k hk ih hp S C D hq => ?_)
  · obtain ⟨C0, C1, C2, C3, C4, C5, C6, C7, C8, C11, C12, C13, C14, C15, C16, C17, C18, C19, C20, C21, C22, C23⟩ := id C
    have hob := C0.ob
    refine x_iload (pc := 75) dX7_lay_75 rfl ?_
    refine x_aload_n (pc := 77) dX7_lay_77 rfl ?_
    refine x_gf (pc := 78) dX7_lay_78 fX7_93 (by assumption) (by omega) ?_
    refine x_icmp_ge (pc := 81) (tgt := 111) dX7_lay_81 (by decide) (by omega) (by omega) (fun c81 => ?_) (fun c81 => ?_)
    · refine x_iconst (pc := 111) dX7_lay_111 ?_
      refine x_zret (pc := 112) dX7_lay_112 rfl (Or.inr rfl) (hq hp S C D Fr.rf (fun x => by rw [if_neg (by omega)]))
    · exact absurd c81 (by omega)
  · obtain ⟨C0, C1, C2, C3, C4, C5, C6, C7, C8, C11, C12, C13, C14, C15, C16, C17, C18, C19, C20, C21, C22, C23⟩ := id C
    have hob := C0.ob
    obtain ⟨D1, D2, D3, D4⟩ := id D
    refine x_iload (pc := 75) dX7_lay_75 rfl ?_
    refine x_aload_n (pc := 77) dX7_lay_77 rfl ?_
    refine x_gf (pc := 78) dX7_lay_78 fX7_93 (by assumption) (by omega) ?_
    refine x_icmp_ge (pc := 81) (tgt := 111) dX7_lay_81 (by decide) (by omega) (by omega) (fun c81 => ?_) (fun c81 => ?_)
    · exact absurd c81 (by omega)
    · refine x_aload_n (pc := 84) dX7_lay_84 rfl ?_
      refine x_gf (pc := 85) dX7_lay_85 fX7_13 (by assumption) (by omega) ?_
      refine x_bipush (pc := 88) dX7_lay_88 (by decide) ?_
      refine x_iload_n (pc := 90) dX7_lay_90 rfl ?_
      refine x_imul (pc := 91) dX7_lay_91 ?_
      refine x_iload (pc := 92) dX7_lay_92 rfl ?_
      refine x_iadd (pc := 94) dX7_lay_94 ?_
      refine x_iload_n (pc := 95) dX7_lay_95 rfl ?_
      refine x_iconst (pc := 96) dX7_lay_96 ?_
      refine x_iload (pc := 97) dX7_lay_97 rfl ?_
      refine x_imul (pc := 99) dX7_lay_99 ?_
      refine x_ishr (pc := 100) dX7_lay_100 (by omega) (by omega) ?_
      rw [show ((3 : Int) * (k : Int)).toNat = 3 * k by omega]
      refine x_bipush (pc := 101) dX7_lay_101 (by decide) ?_
      refine x_iand 3 (pc := 103) dX7_lay_103 (by decide) (by decide +kernel) ?_
      have hm8 := Int.emod_nonneg (z / 2 ^ (3 * k)) (show (2 ^ 3 : Int) ≠ 0 by decide)
      have hm9 := Int.emod_lt_of_pos (z / 2 ^ (3 * k)) (show (0 : Int) < 2 ^ 3 by decide)
      rw [show (2 : Int) ^ 3 = 8 by decide] at hm8 hm9 ⊢
      refine x_is (pc := 104) (j := 8 * l + k) dX7_lay_104 (by assumption) (by omega) (by omega) (by omega) ?_
      refine x_iinc (pc := 105) dX7_lay_105 rfl (by decide) rfl ?_
      show Ex _ _ _ _ _ _ [_, _, _, _, _] _ _ _ _
      refine x_goto (pc := 108) (tgt := 75) dX7_lay_108 (by decide) ?_
      exact ih _ _ (C.keep (up_n _ _ (by omega))) D.upS (fun h S1 C1 d1 f1 e1 => hq h S1 C1 d1 ((Fr.rf.up (by omega) (by omega)).tr f1) (fun x => by
        rw [e1 x]
        by_cases e : x = 8 * l + k
        · subst e
          rw [if_neg (by omega), up_s, if_pos (by omega), show 8 * l + k - 8 * l = k by omega]
        · rw [up_n _ _ e]
          by_cases e2 : 8 * l + (k + 1) ≤ x ∧ x < 8 * l + N
          · rw [if_pos (by omega), if_pos (by omega)]
          · rw [if_neg (by omega), if_neg (by omega)]))

theorem pw24 {N : Nat} (h : 1 ≤ N ∧ N ≤ 8) : (2 : Int) ^ (3 * N) ≤ 16777216 := by
  obtain ⟨h1, h2⟩ := h
  rcases (show N = 1 ∨ N = 2 ∨ N = 3 ∨ N = 4 ∨ N = 5 ∨ N = 6 ∨ N = 7 ∨ N = 8 by omega) with rfl | rfl | rfl | rfl | rfl | rfl | rfl | rfl <;> decide

set_option maxRecDepth 4000 in
theorem m_lay {G : GL} {d : Nat} {hp : HP} {sz : Nat} {p N : Nat} (C : ModA hp p N) (hz : 615 ≤ sz) (hN : 1 ≤ N ∧ N ≤ 8) {W : Nat → Nat} {S T : Nat → Int} (D : MdS hp W S T) {x : Int} (hx : -2147483648 ≤ x ∧ x < 2147483648) {y : Int} (hy : -2147483648 ≤ y ∧ y < 2147483648) {z : Int} (hz1 : -2147483648 ≤ z ∧ z < 2147483648) : Ct G (d + 2) 0 0 mX7_lay [vr 92, vi x, vi y, vi z] hp sz (Vs (fun r h => ((0 ≤ x ∧ x < 8 ∧ 0 ≤ y ∧ y < 2 ^ (N - 1) ∧ 0 ≤ z ∧ z < 2 ^ (3 * N) ∧ ∀ j, j < N → (z / 2 ^ (3 * j)) % 8 ≤ 4) ∧ r = vi 1 ∧ ModA h p N ∧ Fr hp h 93 95 ∧ ∃ S1 T1, MdS h (up W x.toNat y.toNat) S1 T1 ∧ (∀ q, S1 q = if 8 * x.toNat ≤ q ∧ q < 8 * x.toNat + 8 then (if q < 8 * x.toNat + N then (z / 2 ^ (3 * (q - 8 * x.toNat))) % 8 else 0) else S q) ∧ ∀ q, T1 q = if 128 * x.toNat ≤ q ∧ q < 128 * x.toNat + 128 then 0 else T q) ∨ ((¬ (0 ≤ x ∧ x < 8 ∧ 0 ≤ y ∧ y < 2 ^ (N - 1) ∧ 0 ≤ z ∧ z < 2 ^ (3 * N) ∧ ∀ j, j < N → (z / 2 ^ (3 * j)) % 8 ≤ 4)) ∧ r = vi 0 ∧ h = hp)) sz) := by
  show Ex _ _ _ _ _ _ [vr 92, vi x, vi y, vi z, vu] _ _ _ _
  obtain ⟨C0, C1, C2, C3, C4, C5, C6, C7, C8, C11, C12, C13, C14, C15, C16, C17, C18, C19, C20, C21, C22, C23⟩ := id C
  have hob := C0.ob
  have hp7 := pw7 hN
  have hp24 := pw24 hN
  have hp0 : (0 : Int) < 2 ^ (3 * N) := Int.pow_pos (by decide)
  refine x_iload_n (pc := 0) dX7_lay_0 rfl ?_
  refine x_t1 (pc := 1) dX7_lay_1 wX7_isLaying sX7_isLaying kX7_104 (by decide) rfl (Nat.le_of_ble_eq_true rfl) (m_isLaying hx) ?_
  refine x_if_eq (pc := 4) (tgt := 31) dX7_lay_4 (by decide) (bz_rg _) (fun c4 => ?_) (fun c4 => ?_)
  · have d1 := bz_e c4
    refine x_iconst (pc := 31) dX7_lay_31 ?_
    refine x_zret (pc := 32) dX7_lay_32 rfl (by omega) (by first | exact ⟨_, rfl, rfl, Or.inr ⟨fun h => d1 ⟨h.1, by have := h.2.1; omega⟩, rfl, rfl⟩⟩ | exact ⟨_, rfl, rfl, Or.inr ⟨fun h => d2 ⟨h.2.2.1, h.2.2.2.1⟩, rfl, rfl⟩⟩ | exact ⟨_, rfl, rfl, Or.inr ⟨fun h => absurd h.2.2.2.2.1 (by omega), rfl, rfl⟩⟩ | exact ⟨_, rfl, rfl, Or.inr ⟨fun h => absurd h.2.2.2.2.2.1 (by omega), rfl, rfl⟩⟩)
  · have d1 := bz_n c4
    refine x_aload_n (pc := 7) dX7_lay_7 rfl ?_
    refine x_iload_n (pc := 8) dX7_lay_8 rfl ?_
    refine x_w1 (pc := 9) dX7_lay_9 wX7_areWays iX7_areWays kX7_108 (by decide) rfl (Nat.le_of_ble_eq_true rfl) (by assumption) (by omega) (m_areWays C hz hN hy) ?_
    refine x_if_eq (pc := 12) (tgt := 31) dX7_lay_12 (by decide) (bz_rg _) (fun c12 => ?_) (fun c12 => ?_)
    · have d2 := bz_e c12
      refine x_iconst (pc := 31) dX7_lay_31 ?_
      refine x_zret (pc := 32) dX7_lay_32 rfl (by omega) (by first | exact ⟨_, rfl, rfl, Or.inr ⟨fun h => d1 ⟨h.1, by have := h.2.1; omega⟩, rfl, rfl⟩⟩ | exact ⟨_, rfl, rfl, Or.inr ⟨fun h => d2 ⟨h.2.2.1, h.2.2.2.1⟩, rfl, rfl⟩⟩ | exact ⟨_, rfl, rfl, Or.inr ⟨fun h => absurd h.2.2.2.2.1 (by omega), rfl, rfl⟩⟩ | exact ⟨_, rfl, rfl, Or.inr ⟨fun h => absurd h.2.2.2.2.2.1 (by omega), rfl, rfl⟩⟩)
    · have d2 := bz_n c12
      refine x_iload_n (pc := 15) dX7_lay_15 rfl ?_
      refine x_if_lt (pc := 16) (tgt := 31) dX7_lay_16 (by decide) (by omega) (fun c16 => ?_) (fun c16 => ?_)
      · refine x_iconst (pc := 31) dX7_lay_31 ?_
        refine x_zret (pc := 32) dX7_lay_32 rfl (by omega) (by first | exact ⟨_, rfl, rfl, Or.inr ⟨fun h => d1 ⟨h.1, by have := h.2.1; omega⟩, rfl, rfl⟩⟩ | exact ⟨_, rfl, rfl, Or.inr ⟨fun h => d2 ⟨h.2.2.1, h.2.2.2.1⟩, rfl, rfl⟩⟩ | exact ⟨_, rfl, rfl, Or.inr ⟨fun h => absurd h.2.2.2.2.1 (by omega), rfl, rfl⟩⟩ | exact ⟨_, rfl, rfl, Or.inr ⟨fun h => absurd h.2.2.2.2.2.1 (by omega), rfl, rfl⟩⟩)
      · refine x_iload_n (pc := 19) dX7_lay_19 rfl ?_
        refine x_iconst (pc := 20) dX7_lay_20 ?_
        refine x_iconst (pc := 21) dX7_lay_21 ?_
        refine x_aload_n (pc := 22) dX7_lay_22 rfl ?_
        refine x_gf (pc := 23) dX7_lay_23 fX7_93 (by assumption) (by omega) ?_
        refine x_imul (pc := 26) dX7_lay_26 ?_
        refine x_ishl1 (pc := 27) dX7_lay_27 (by omega) ?_
        rw [show ((3 : Int) * (N : Int)).toNat = 3 * N by omega]
        refine x_icmp_lt (pc := 28) (tgt := 33) dX7_lay_28 (by decide) (by omega) (by omega) (fun c28 => ?_) (fun c28 => ?_)
        · refine x_iconst (pc := 33) dX7_lay_33 ?_
          refine x_istore (pc := 34) dX7_lay_34 (by decide) rfl ?_
          show Ex _ _ _ _ _ _ [_, _, _, _, _] _ _ _ _
          refine k_lay1 C hz hN (by omega) (fun h9 => ⟨_, rfl, rfl, Or.inr ⟨fun h => h9 h.2.2.2.2.2.2, rfl, rfl⟩⟩) 0 (by omega) (fun h9 => ?_)
          obtain ⟨l, rfl⟩ : ∃ l : Nat, x = (l : Int) := ⟨x.toNat, by omega⟩
          obtain ⟨w, rfl⟩ : ∃ w : Nat, y = (w : Int) := ⟨y.toNat, by omega⟩
          simp only [Int.toNat_natCast]
          refine x_aload_n (pc := 66) dX7_lay_66 rfl ?_
          refine x_iload_n (pc := 67) dX7_lay_67 rfl ?_
          refine x_iload_n (pc := 68) dX7_lay_68 rfl ?_
          refine x_p2 (pc := 69) dX7_lay_69 wX7_clear iX7_clear kX7_111 (by decide) rfl (Nat.le_of_ble_eq_true rfl) (by assumption) (by omega) (m_clear C hz hN D (l := l) (w := w) (by omega) (by omega)) (fun h69 e69 => ?_)
          obtain ⟨C9, f9, S2, T2, D9, e2, e3⟩ := e69
          refine x_iconst (pc := 72) dX7_lay_72 ?_
          refine x_istore (pc := 73) dX7_lay_73 (by decide) rfl ?_
          show Ex _ _ _ _ _ _ [_, _, _, _, _] _ _ _ _
          exact k_lay2 hz hN (by omega) (by omega) 0 (by omega) h69 S2 C9 D9 (fun h S1 C1 d1 f1 e1 => ⟨_, rfl, rfl, Or.inl ⟨⟨by omega, by omega, by omega, by omega, by omega, by omega, fun j hj => h9 j (by omega) hj⟩, rfl, C1, f9.tr f1, S1, T2, d1, fun q => by
            rw [e1 q, e2 q]
            by_cases h1 : 8 * l ≤ q ∧ q < 8 * l + 8
            · rw [if_pos h1, if_pos h1]
              by_cases h2 : q < 8 * l + N
              · rw [if_pos (by omega), if_pos h2]
              · rw [if_neg (by omega), if_neg h2]
            · rw [if_neg h1, if_neg h1, if_neg (by omega)], e3⟩⟩)
        · refine x_iconst (pc := 31) dX7_lay_31 ?_
          refine x_zret (pc := 32) dX7_lay_32 rfl (by omega) (by first | exact ⟨_, rfl, rfl, Or.inr ⟨fun h => d1 ⟨h.1, by have := h.2.1; omega⟩, rfl, rfl⟩⟩ | exact ⟨_, rfl, rfl, Or.inr ⟨fun h => d2 ⟨h.2.2.1, h.2.2.2.1⟩, rfl, rfl⟩⟩ | exact ⟨_, rfl, rfl, Or.inr ⟨fun h => absurd h.2.2.2.2.1 (by omega), rfl, rfl⟩⟩ | exact ⟨_, rfl, rfl, Or.inr ⟨fun h => absurd h.2.2.2.2.2.1 (by omega), rfl, rfl⟩⟩)

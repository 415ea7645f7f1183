theorem k_isLead {G : GL} {d : Nat} {hp : HP} {sz : Nat} {p N : Nat} (C : ModA hp p N) (hz : 615 ≤ sz) (hN : 1 ≤ N ∧ N ≤ 8) {M : Nat → Nat → Int} {ld : Nat → Int} {m w : Nat} {g : Nat → Option Nat} {σ : Nat → Nat} (Mo : MoB hp M ld m w g σ) (hm : m ≤ 260) {c : Int} (hc : -2147483648 ≤ c ∧ c < 2147483648) (hl : ∀ i, i < m → -2147483648 ≤ ld i ∧ ld i < 2147483648) {Q : Option AV → HP → Nat → Prop} : ∀ k, k ≤ m → (∀ r : Bool, (r = true ↔ ∃ i, k ≤ i ∧ i < m ∧ ld i = c) → Q (some (vi (bz r))) hp sz) → Ex G d 0 0 mX7_isLead 2 [vr 92, vi c, vi k] [] hp sz Q := by
  obtain ⟨C0, C1, C2, C3, C4, C5, C6, C7, C8, C11, C12, C13, C14, C15, C16, C17, C18, C19, C20, C21, C22, C23⟩ := id C
  have hob := C0.ob
  obtain ⟨O1, O2, O3, O4, O5, O6⟩ := id Mo
  refine down (fun hq => ?_) (fun k hk ih hq => ?_)
  · refine x_iload_n (pc := 2) dX7_isLead_2 rfl ?_
    refine x_aload_n (pc := 3) dX7_isLead_3 rfl ?_
    refine x_gf (pc := 4) dX7_isLead_4 fX7_146 (by assumption) (by omega) ?_
    refine x_icmp_ge (pc := 7) (tgt := 28) dX7_isLead_7 (by decide) (by omega) (by omega) (fun c7 => ?_) (fun c7 => ?_)
    · refine x_iconst (pc := 28) dX7_isLead_28 ?_
      refine x_zret (pc := 29) dX7_isLead_29 rfl (Or.inl rfl) (hq false ⟨fun h => absurd h (by decide), fun h => by obtain ⟨i, h1, h2, h3⟩ := h; omega⟩)
    · exact absurd c7 (by omega)
  · refine x_iload_n (pc := 2) dX7_isLead_2 rfl ?_
    refine x_aload_n (pc := 3) dX7_isLead_3 rfl ?_
    refine x_gf (pc := 4) dX7_isLead_4 fX7_146 (by assumption) (by omega) ?_
    refine x_icmp_ge (pc := 7) (tgt := 28) dX7_isLead_7 (by decide) (by omega) (by omega) (fun c7 => ?_) (fun c7 => ?_)
    · exact absurd c7 (by omega)
    · refine x_aload_n (pc := 10) dX7_isLead_10 rfl ?_
      refine x_gf (pc := 11) dX7_isLead_11 fX7_30 (by assumption) (by omega) ?_
      refine x_iload_n (pc := 14) dX7_isLead_14 rfl ?_
      refine x_il (pc := 15) dX7_isLead_15 (by assumption) (by omega) rfl (by omega) ?_
      refine x_iload_n (pc := 16) dX7_isLead_16 rfl ?_
      refine x_icmp_ne (pc := 17) (tgt := 22) dX7_isLead_17 (by decide) (hl k (by omega)) hc (fun c17 => ?_) (fun c17 => ?_)
      · refine x_iinc (pc := 22) dX7_isLead_22 rfl (by decide) rfl ?_
        show Ex _ _ _ _ _ _ [_, _, _] _ _ _ _
        refine x_goto (pc := 25) (tgt := 2) dX7_isLead_25 (by decide) ?_
        exact ih (fun r hr => hq r (by
          rw [hr]
          constructor
          · rintro ⟨i, h1, h2, h3⟩
            exact ⟨i, by omega, h2, h3⟩
          · rintro ⟨i, h1, h2, h3⟩
            exact ⟨i, by by_cases e : i = k; (subst e; exact absurd h3 c17); omega, h2, h3⟩))
      · refine x_iconst (pc := 20) dX7_isLead_20 ?_
        refine x_zret (pc := 21) dX7_isLead_21 rfl (Or.inr rfl) (hq true ⟨fun _ => ⟨k, by omega, hk, c17⟩, fun _ => rfl⟩)

set_option maxRecDepth 4000 in
theorem m_isLead {G : GL} {d : Nat} {hp : HP} {sz : Nat} {p N : Nat} (C : ModA hp p N) (hz : 615 ≤ sz) (hN : 1 ≤ N ∧ N ≤ 8) {M : Nat → Nat → Int} {ld : Nat → Int} {m w : Nat} (Mo : MoA hp M ld m w) (hm : m ≤ 260) {c : Int} (hc : -2147483648 ≤ c ∧ c < 2147483648) (hl : ∀ i, i < m → -2147483648 ≤ ld i ∧ ld i < 2147483648) : Ct G d 0 0 mX7_isLead [vr 92, vi c] hp sz (Vs (fun v h => h = hp ∧ ∃ r : Bool, v = vi (bz r) ∧ (r = true ↔ ∃ i, i < m ∧ ld i = c)) sz) := by
  show Ex _ _ _ _ _ _ [vr 92, vi c, vu] _ _ _ _
  obtain ⟨g, σ, Mo⟩ := Mo
  refine x_iconst (pc := 0) dX7_isLead_0 ?_
  refine x_istore_n (pc := 1) dX7_isLead_1 (by decide) rfl ?_
  show Ex _ _ _ _ _ _ [_, _, _] _ _ _ _
  exact k_isLead C hz hN Mo hm hc hl 0 (by omega) (fun r hr => ⟨_, rfl, rfl, rfl, r, rfl, by rw [hr]; exact ⟨fun ⟨i, _, h2, h3⟩ => ⟨i, h2, h3⟩, fun ⟨i, h2, h3⟩ => ⟨i, by omega, h2, h3⟩⟩⟩)

theorem k_inv {G : GL} {d : Nat} {hp : HP} {sz : Nat} {p N : Nat} (C : ModA hp p N) (hz : 615 ≤ sz) (hN : 1 ≤ N ∧ N ≤ 8) {v : Int} {Q : Option AV → HP → Nat → Prop} (hp13 : p ≤ 13) (hv : 0 ≤ v ∧ v < p) (hq : ∀ x : Nat, (x : Int) < p → ((x : Int) * v) % p = 1 → Q (some (vi x)) hp sz) : ∀ k, k ≤ p → (∃ x : Nat, k ≤ x ∧ x < p ∧ ((x : Int) * v) % p = 1) → Ex G d 0 0 mX7_inverse 2 [vr 92, vi v, vi k] [] hp sz Q := by
  obtain ⟨C0, C1, C2, C3, C4, C5, C6, C7, C8, C11, C12, C13, C14, C15, C16, C17, C18, C19, C20, C21, C22, C23⟩ := id C
  have hob := C0.ob
  refine down (fun hex => ?_) (fun k hk ih hex => ?_)
  · exact absurd hex (by rintro ⟨x, h1, h2, h3⟩; omega)
  · refine x_iload_n (pc := 2) dX7_inverse_2 rfl ?_
    refine x_iload_n (pc := 3) dX7_inverse_3 rfl ?_
    refine x_imul (pc := 4) dX7_inverse_4 ?_
    refine x_aload_n (pc := 5) dX7_inverse_5 rfl ?_
    refine x_gf (pc := 6) dX7_inverse_6 fX7_80 (by assumption) (by omega) ?_
    have hm9 := mul13 hp13 (x := (k : Int)) (y := v) ⟨by omega, by omega⟩ ⟨by omega, by omega⟩
    refine x_irem (pc := 9) dX7_inverse_9 (by omega) (by omega) ?_
    rw [tm hm9.1]
    have hr9 := emod_rg (x := (k : Int) * v) (p := p) (by omega)
    refine x_iconst (pc := 10) dX7_inverse_10 ?_
    refine x_icmp_eq (pc := 11) (tgt := 20) dX7_inverse_11 (by decide) (by omega) (by omega) (fun c11 => ?_) (fun c11 => ?_)
    · refine x_iload_n (pc := 20) dX7_inverse_20 rfl ?_
      refine x_iret (pc := 21) dX7_inverse_21 rfl (hq k (by omega) c11)
    · refine x_iinc (pc := 14) dX7_inverse_14 rfl (by decide) rfl ?_
      show Ex _ _ _ _ _ _ [_, _, _] _ _ _ _
      refine x_goto (pc := 17) (tgt := 2) dX7_inverse_17 (by decide) ?_
      exact ih (by obtain ⟨x, h1, h2, h3⟩ := hex; refine ⟨x, ?_, h2, h3⟩; by_cases e : x = k; (subst e; exact absurd h3 c11); omega)

set_option maxRecDepth 4000 in
theorem m_inv {G : GL} {d : Nat} {hp : HP} {sz : Nat} {p N : Nat} (C : ModA hp p N) (hz : 615 ≤ sz) (hN : 1 ≤ N ∧ N ≤ 8) {v : Int} (hP : isP p) (hv : 0 < v ∧ v < p) : Ct G d 0 0 mX7_inverse [vr 92, vi v] hp sz (Vs (fun r h => h = hp ∧ ∃ x : Nat, r = vi x ∧ (x : Int) < p ∧ ((x : Int) * v) % p = 1) sz) := by
  show Ex _ _ _ _ _ _ [vr 92, vi v, vu] _ _ _ _
  refine x_iconst (pc := 0) dX7_inverse_0 ?_
  refine x_istore_n (pc := 1) dX7_inverse_1 (by decide) rfl ?_
  show Ex _ _ _ _ _ _ [_, _, _] _ _ _ _
  exact k_inv C hz hN hP.le.2 ⟨by omega, hv.2⟩ (fun x h1 h2 => ⟨_, rfl, rfl, rfl, x, rfl, h1, h2⟩) 1 (by have := hP.le; omega) (inv_exI hP hv.1 hv.2)

set_option maxRecDepth 4000 in
theorem m_areAlong {G : GL} {d : Nat} {hp : HP} {sz : Nat} {p N : Nat} (C : ModA hp p N) (hz : 615 ≤ sz) (hN : 1 ≤ N ∧ N ≤ 8) {W : Nat → Nat} {S T : Nat → Int} (D : MdS hp W S T) {x : Int} (hx : -2147483648 ≤ x ∧ x < 2147483648) {y : Int} (hy : -2147483648 ≤ y ∧ y < 2147483648) : Ct G (d + 2) 0 0 mX7_areAlong [vr 92, vi x, vi y] hp sz (Rd (some (vi (bz (decide (0 ≤ x ∧ x < 8 ∧ 0 ≤ y ∧ y < 8 ∧ W x.toNat = W y.toNat))))) hp sz) := by
  show Ex _ _ _ _ _ _ [vr 92, vi x, vi y] _ _ _ _
  obtain ⟨C0, C1, C2, C3, C4, C5, C6, C7, C8, C11, C12, C13, C14, C15, C16, C17, C18, C19, C20, C21, C22, C23⟩ := id C
  have hob := C0.ob
  obtain ⟨D1, D2, D3, D4⟩ := id D
  refine x_iload_n (pc := 0) dX7_areAlong_0 rfl ?_
  refine x_t1 (pc := 1) dX7_areAlong_1 wX7_isLaying sX7_isLaying kX7_104 (by decide) rfl (Nat.le_of_ble_eq_true rfl) (m_isLaying hx) ?_
  refine x_if_eq (pc := 4) (tgt := 33) dX7_areAlong_4 (by decide) (bz_rg _) (fun c4 => ?_) (fun c4 => ?_)
  · have d1 := bz_e c4
    refine x_iconst (pc := 33) dX7_areAlong_33 ?_
    refine x_zret (pc := 34) dX7_areAlong_34 rfl (by omega) ⟨by first | rw [← bz1 (by omega)] | rw [← bz0 (by omega)], rfl, rfl⟩
  · have d1 := bz_n c4
    refine x_iload_n (pc := 7) dX7_areAlong_7 rfl ?_
    refine x_t1 (pc := 8) dX7_areAlong_8 wX7_isLaying sX7_isLaying kX7_104 (by decide) rfl (Nat.le_of_ble_eq_true rfl) (m_isLaying hy) ?_
    refine x_if_eq (pc := 11) (tgt := 33) dX7_areAlong_11 (by decide) (bz_rg _) (fun c11 => ?_) (fun c11 => ?_)
    · have d2 := bz_e c11
      refine x_iconst (pc := 33) dX7_areAlong_33 ?_
      refine x_zret (pc := 34) dX7_areAlong_34 rfl (by omega) ⟨by first | rw [← bz1 (by omega)] | rw [← bz0 (by omega)], rfl, rfl⟩
    · have d2 := bz_n c11
      refine x_aload_n (pc := 14) dX7_areAlong_14 rfl ?_
      refine x_gf (pc := 15) dX7_areAlong_15 fX7_9 (by assumption) (by omega) ?_
      refine x_iload_n (pc := 18) dX7_areAlong_18 rfl ?_
      have hw1 := D4 x.toNat (by omega)
      have hw2 := D4 y.toNat (by omega)
      refine x_il (pc := 19) (j := x.toNat) dX7_areAlong_19 (by assumption) (by omega) (by omega) (by omega) ?_
      refine x_aload_n (pc := 20) dX7_areAlong_20 rfl ?_
      refine x_gf (pc := 21) dX7_areAlong_21 fX7_9 (by assumption) (by omega) ?_
      refine x_iload_n (pc := 24) dX7_areAlong_24 rfl ?_
      refine x_il (pc := 25) (j := y.toNat) dX7_areAlong_25 (by assumption) (by omega) (by omega) (by omega) ?_
      refine x_icmp_ne (pc := 26) (tgt := 33) dX7_areAlong_26 (by decide) (by omega) (by omega) (fun c26 => ?_) (fun c26 => ?_)
      · refine x_iconst (pc := 33) dX7_areAlong_33 ?_
        refine x_zret (pc := 34) dX7_areAlong_34 rfl (by omega) ⟨by first | rw [← bz1 (by omega)] | rw [← bz0 (by omega)], rfl, rfl⟩
      · refine x_iconst (pc := 29) dX7_areAlong_29 ?_
        refine x_goto (pc := 30) (tgt := 34) dX7_areAlong_30 (by decide) ?_
        refine x_zret (pc := 34) dX7_areAlong_34 rfl (by omega) ⟨by first | rw [← bz1 (by omega)] | rw [← bz0 (by omega)], rfl, rfl⟩

theorem k_form1 {G : GL} {d : Nat} {hp : HP} {sz : Nat} {p N : Nat} (C : ModA hp p N) (hz : 615 ≤ sz) (hN : 1 ≤ N ∧ N ≤ 8) {W : Nat → Nat} {S T : Nat → Int} (D : MdS hp W S T) (hS : inSm S) {l q : Nat} (hl : l < 8) (hq8 : q < 8) {Q : Option AV → HP → Nat → Prop} (hq : Ex G (d + 2) 0 0 mX7_form 54 [vr 92, vi l, vi q, vi (sm N (fun k => S (8 * l + k) * S (8 * q + k))), vi (N : Nat)] [] hp sz Q) : ∀ k, k ≤ N → Ex G (d + 2) 0 0 mX7_form 21 [vr 92, vi l, vi q, vi (sm k (fun k => S (8 * l + k) * S (8 * q + k))), vi k] [] hp sz Q := by
  obtain ⟨C0, C1, C2, C3, C4, C5, C6, C7, C8, C11, C12, C13, C14, C15, C16, C17, C18, C19, C20, C21, C22, C23⟩ := id C
  have hob := C0.ob
  refine down ?_ (fun k hk ih => ?_)
  · refine x_iload (pc := 21) dX7_form_21 rfl ?_
    refine x_aload_n (pc := 23) dX7_form_23 rfl ?_
    refine x_gf (pc := 24) dX7_form_24 fX7_93 (by assumption) (by omega) ?_
    refine x_icmp_ge (pc := 27) (tgt := 54) dX7_form_27 (by decide) (by omega) (by omega) (fun c27 => ?_) (fun c27 => ?_)
    · exact hq
    · exact absurd c27 (by omega)
  · refine x_iload (pc := 21) dX7_form_21 rfl ?_
    refine x_aload_n (pc := 23) dX7_form_23 rfl ?_
    refine x_gf (pc := 24) dX7_form_24 fX7_93 (by assumption) (by omega) ?_
    refine x_icmp_ge (pc := 27) (tgt := 54) dX7_form_27 (by decide) (by omega) (by omega) (fun c27 => ?_) (fun c27 => ?_)
    · exact absurd c27 (by omega)
    · refine x_iload_n (pc := 30) dX7_form_30 rfl ?_
      refine x_aload_n (pc := 31) dX7_form_31 rfl ?_
      refine x_iload_n (pc := 32) dX7_form_32 rfl ?_
      refine x_iload (pc := 33) dX7_form_33 rfl ?_
      refine x_w2 (pc := 35) dX7_form_35 wX7_at iX7_at kX7_118 (by decide) rfl (Nat.le_of_ble_eq_true rfl) (by assumption) (by omega) (m_at C hz hN D hl (by omega)) ?_
      refine x_aload_n (pc := 38) dX7_form_38 rfl ?_
      refine x_iload_n (pc := 39) dX7_form_39 rfl ?_
      refine x_iload (pc := 40) dX7_form_40 rfl ?_
      refine x_w2 (pc := 42) dX7_form_42 wX7_at iX7_at kX7_118 (by decide) rfl (Nat.le_of_ble_eq_true rfl) (by assumption) (by omega) (m_at C hz hN D hq8 (by omega)) ?_
      refine x_imul (pc := 45) dX7_form_45 ?_
      refine x_iadd (pc := 46) dX7_form_46 ?_
      refine x_istore_n (pc := 47) dX7_form_47 (by decide) rfl ?_
      show Ex _ _ _ _ _ _ [_, _, _, _, _] _ _ _ _
      refine x_iinc (pc := 48) dX7_form_48 rfl (by decide) rfl ?_
      show Ex _ _ _ _ _ _ [_, _, _, _, _] _ _ _ _
      refine x_goto (pc := 51) (tgt := 21) dX7_form_51 (by decide) ?_
      exact ih

theorem k_form2 {G : GL} {d : Nat} {hp : HP} {sz : Nat} {p N : Nat} (C : ModA hp p N) (hz : 615 ≤ sz) (hN : 1 ≤ N ∧ N ≤ 8) {W : Nat → Nat} {S T : Nat → Int} (D : MdS hp W S T) (hS : inSm S) {l q : Nat} (hl : l < 8) (hq8 : q < 8) {Q : Option AV → HP → Nat → Prop} {z : Int} (hq : Q (some (vi (z - sm (N - 1) (fun k => S (8 * l + (if (W l).testBit k then k + 1 else k)) * S (8 * q + (if (W l).testBit k then k else k + 1)))))) hp sz) : ∀ k, k ≤ N - 1 → Ex G (d + 2) 0 0 mX7_form 57 [vr 92, vi l, vi q, vi (z - sm k (fun k => S (8 * l + (if (W l).testBit k then k + 1 else k)) * S (8 * q + (if (W l).testBit k then k else k + 1)))), vi k] [] hp sz Q := by
  obtain ⟨C0, C1, C2, C3, C4, C5, C6, C7, C8, C11, C12, C13, C14, C15, C16, C17, C18, C19, C20, C21, C22, C23⟩ := id C
  have hob := C0.ob
  refine down ?_ (fun k hk ih => ?_)
  · refine x_iload (pc := 57) dX7_form_57 rfl ?_
    refine x_aload_n (pc := 59) dX7_form_59 rfl ?_
    refine x_gf (pc := 60) dX7_form_60 fX7_93 (by assumption) (by omega) ?_
    refine x_iconst (pc := 63) dX7_form_63 ?_
    refine x_isub (pc := 64) dX7_form_64 ?_
    refine x_icmp_ge (pc := 65) (tgt := 102) dX7_form_65 (by decide) (by omega) (by omega) (fun c65 => ?_) (fun c65 => ?_)
    · refine x_iload_n (pc := 102) dX7_form_102 rfl ?_
      refine x_iret (pc := 103) dX7_form_103 rfl hq
    · exact absurd c65 (by omega)
  · refine x_iload (pc := 57) dX7_form_57 rfl ?_
    refine x_aload_n (pc := 59) dX7_form_59 rfl ?_
    refine x_gf (pc := 60) dX7_form_60 fX7_93 (by assumption) (by omega) ?_
    refine x_iconst (pc := 63) dX7_form_63 ?_
    refine x_isub (pc := 64) dX7_form_64 ?_
    refine x_icmp_ge (pc := 65) (tgt := 102) dX7_form_65 (by decide) (by omega) (by omega) (fun c65 => ?_) (fun c65 => ?_)
    · exact absurd c65 (by omega)
    · refine x_iload_n (pc := 68) dX7_form_68 rfl ?_
      refine x_aload_n (pc := 69) dX7_form_69 rfl ?_
      refine x_iload_n (pc := 70) dX7_form_70 rfl ?_
      refine x_aload_n (pc := 71) dX7_form_71 rfl ?_
      refine x_iload_n (pc := 72) dX7_form_72 rfl ?_
      refine x_iload (pc := 73) dX7_form_73 rfl ?_
      refine x_w2 (pc := 75) dX7_form_75 wX7_source iX7_source kX7_121 (by decide) rfl (Nat.le_of_ble_eq_true rfl) (by assumption) (by omega) (m_source C hz hN D hl (k := k) (by omega)) ?_
      refine x_w2 (pc := 78) dX7_form_78 wX7_at iX7_at kX7_118 (by decide) rfl (Nat.le_of_ble_eq_true rfl) (by assumption) (by omega) (m_at C hz hN D hl (by split <;> omega)) ?_
      refine x_aload_n (pc := 81) dX7_form_81 rfl ?_
      refine x_iload_n (pc := 82) dX7_form_82 rfl ?_
      refine x_aload_n (pc := 83) dX7_form_83 rfl ?_
      refine x_iload_n (pc := 84) dX7_form_84 rfl ?_
      refine x_iload (pc := 85) dX7_form_85 rfl ?_
      refine x_w2 (pc := 87) dX7_form_87 wX7_target iX7_target kX7_115 (by decide) rfl (Nat.le_of_ble_eq_true rfl) (by assumption) (by omega) (m_target C hz hN D hl (k := k) (by omega)) ?_
      refine x_w2 (pc := 90) dX7_form_90 wX7_at iX7_at kX7_118 (by decide) rfl (Nat.le_of_ble_eq_true rfl) (by assumption) (by omega) (m_at C hz hN D hq8 (by split <;> omega)) ?_
      refine x_imul (pc := 93) dX7_form_93 ?_
      refine x_isub (pc := 94) dX7_form_94 ?_
      refine x_istore_n (pc := 95) dX7_form_95 (by decide) rfl ?_
      show Ex _ _ _ _ _ _ [_, _, _, _, _] _ _ _ _
      refine x_iinc (pc := 96) dX7_form_96 rfl (by decide) rfl ?_
      show Ex _ _ _ _ _ _ [_, _, _, _, _] _ _ _ _
      refine x_goto (pc := 99) (tgt := 57) dX7_form_99 (by decide) ?_
      have e9 : z - sm k (fun k => S (8 * l + (if (W l).testBit k then k + 1 else k)) * S (8 * q + (if (W l).testBit k then k else k + 1))) - S (8 * l + (if (W l).testBit k then k + 1 else k)) * S (8 * q + (if (W l).testBit k then k else k + 1)) = z - sm (k + 1) (fun k => S (8 * l + (if (W l).testBit k then k + 1 else k)) * S (8 * q + (if (W l).testBit k then k else k + 1))) := by rw [sm_s]; omega
      rw [e9]
      exact ih

set_option maxRecDepth 4000 in
theorem m_form {G : GL} {d : Nat} {hp : HP} {sz : Nat} {p N : Nat} (C : ModA hp p N) (hz : 615 ≤ sz) (hN : 1 ≤ N ∧ N ≤ 8) {W : Nat → Nat} {S T : Nat → Int} (D : MdS hp W S T) (hS : inSm S) {x : Int} (hx : -2147483648 ≤ x ∧ x < 2147483648) {y : Int} (hy : -2147483648 ≤ y ∧ y < 2147483648) : Ct G (d + 2) 0 0 mX7_form [vr 92, vi x, vi y] hp sz (Rd (some (vi (if 0 ≤ x ∧ x < 8 ∧ 0 ≤ y ∧ y < 8 then sm N (fun k => S (8 * x.toNat + k) * S (8 * y.toNat + k)) - sm (N - 1) (fun k => S (8 * x.toNat + (if (W x.toNat).testBit k then k + 1 else k)) * S (8 * y.toNat + (if (W x.toNat).testBit k then k else k + 1))) else 0))) hp sz) := by
  show Ex _ _ _ _ _ _ [vr 92, vi x, vi y, vu, vu] _ _ _ _
  obtain ⟨C0, C1, C2, C3, C4, C5, C6, C7, C8, C11, C12, C13, C14, C15, C16, C17, C18, C19, C20, C21, C22, C23⟩ := id C
  have hob := C0.ob
  refine x_iload_n (pc := 0) dX7_form_0 rfl ?_
  refine x_t1 (pc := 1) dX7_form_1 wX7_isLaying sX7_isLaying kX7_104 (by decide) rfl (Nat.le_of_ble_eq_true rfl) (m_isLaying hx) ?_
  refine x_if_eq (pc := 4) (tgt := 14) dX7_form_4 (by decide) (bz_rg _) (fun c4 => ?_) (fun c4 => ?_)
  · have d1 := bz_e c4
    refine x_iconst (pc := 14) dX7_form_14 ?_
    refine x_iret (pc := 15) dX7_form_15 rfl ⟨by rw [if_neg (by omega)], rfl, rfl⟩
  · have d1 := bz_n c4
    refine x_iload_n (pc := 7) dX7_form_7 rfl ?_
    refine x_t1 (pc := 8) dX7_form_8 wX7_isLaying sX7_isLaying kX7_104 (by decide) rfl (Nat.le_of_ble_eq_true rfl) (m_isLaying hy) ?_
    refine x_if_ne (pc := 11) (tgt := 16) dX7_form_11 (by decide) (bz_rg _) (fun c11 => ?_) (fun c11 => ?_)
    · have d2 := bz_n c11
      obtain ⟨l, rfl⟩ : ∃ l : Nat, x = (l : Int) := ⟨x.toNat, by omega⟩
      obtain ⟨q, rfl⟩ : ∃ q : Nat, y = (q : Int) := ⟨y.toNat, by omega⟩
      simp only [Int.toNat_natCast]
      refine x_iconst (pc := 16) dX7_form_16 ?_
      refine x_istore_n (pc := 17) dX7_form_17 (by decide) rfl ?_
      show Ex _ _ _ _ _ _ [_, _, _, _, _] _ _ _ _
      refine x_iconst (pc := 18) dX7_form_18 ?_
      refine x_istore (pc := 19) dX7_form_19 (by decide) rfl ?_
      show Ex _ _ _ _ _ _ [_, _, _, _, _] _ _ _ _
      refine k_form1 (d := d) C hz hN D hS (by omega) (by omega) ?_ 0 (by omega)
      refine x_iconst (pc := 54) dX7_form_54 ?_
      refine x_istore (pc := 55) dX7_form_55 (by decide) rfl ?_
      show Ex _ _ _ _ _ _ [_, _, _, _, _] _ _ _ _
      have h9 := k_form2 (G := G) (d := d) (z := sm N (fun k => S (8 * l + k) * S (8 * q + k))) (Q := Rd (some (vi (if 0 ≤ (l : Int) ∧ (l : Int) < 8 ∧ 0 ≤ (q : Int) ∧ (q : Int) < 8 then sm N (fun k => S (8 * l + k) * S (8 * q + k)) - sm (N - 1) (fun k => S (8 * l + (if (W l).testBit k then k + 1 else k)) * S (8 * q + (if (W l).testBit k then k else k + 1))) else 0))) hp sz) C hz hN D hS (show l < 8 by omega) (show q < 8 by omega) ⟨by rw [if_pos (by omega)], rfl, rfl⟩ 0 (by omega)
      rw [sm_0, Int.sub_zero] at h9
      exact h9
    · have d2 := bz_e c11
      refine x_iconst (pc := 14) dX7_form_14 ?_
      refine x_iret (pc := 15) dX7_form_15 rfl ⟨by rw [if_neg (by omega)], rfl, rfl⟩

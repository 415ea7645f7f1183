theorem k_span {G : GL} {d : Nat} {sz p N : Nat} (hz : 615 ≤ sz) {l a b : Nat} (hl : l < 8) (hb : b < 8) {y : Int} {W : Nat → Nat} {Q : Option AV → HP → Nat → Prop} : ∀ k, k ≤ b + 1 → ∀ (hp : HP) (S T : Nat → Int), ModA hp p N → MdS hp W S T → (∀ h S1 T1, ModA h p N → MdS h W S1 T1 → Fr hp h 93 95 → (∀ x, S1 x = if 8 * l + k ≤ x ∧ x < 8 * l + b + 1 then 1 else S x) → (∀ j, k ≤ j → j < b → T1 (l * 128 + j * 16) = 1) → (∀ x, (∀ j, k ≤ j → j < b → x ≠ l * 128 + j * 16) → T1 x = T x) → Q (some (vi 1)) h sz) → Ex G (d + 1) 0 0 mX7_span 49 [vr 92, vi l, vi y, vi a, vi b, vi k] [] hp sz Q := by
  refine down (fun hp S T C D hq => ?_) (fun k hk ih hp S T C D hq => ?_)
  · refine x_iload (pc := 49) dX7_span_49 rfl ?_
    refine x_iload (pc := 51) dX7_span_51 rfl ?_
    refine x_icmp_gt (pc := 53) (tgt := 96) dX7_span_53 (by decide) (by omega) (by omega) (fun c53 => ?_) (fun c53 => ?_)
    · refine x_iconst (pc := 96) dX7_span_96 ?_
      refine x_zret (pc := 97) dX7_span_97 rfl (Or.inr rfl) (hq hp S T C D Fr.rf (fun x => by rw [if_neg (by omega)]) (fun j h1 h2 => absurd h2 (by omega)) (fun x _ => rfl))
    · exact absurd c53 (by omega)
  · obtain ⟨C0, C1, C2, C3, C4, C5, C6, C7, C8, C11, C12, C13, C14, C15, C16, C17, C18, C19, C20, C21, C22, C23⟩ := id C
    have hob := C0.ob
    obtain ⟨D1, D2, D3, D4⟩ := id D
    refine x_iload (pc := 49) dX7_span_49 rfl ?_
    refine x_iload (pc := 51) dX7_span_51 rfl ?_
    refine x_icmp_gt (pc := 53) (tgt := 96) dX7_span_53 (by decide) (by omega) (by omega) (fun c53 => ?_) (fun c53 => ?_)
    · exact absurd c53 (by omega)
    · refine x_aload_n (pc := 56) dX7_span_56 rfl ?_
      refine x_gf (pc := 57) dX7_span_57 fX7_13 (by assumption) (by omega) ?_
      refine x_bipush (pc := 60) dX7_span_60 (by decide) ?_
      refine x_iload_n (pc := 62) dX7_span_62 rfl ?_
      refine x_imul (pc := 63) dX7_span_63 ?_
      refine x_iload (pc := 64) dX7_span_64 rfl ?_
      refine x_iadd (pc := 66) dX7_span_66 ?_
      refine x_iconst (pc := 67) dX7_span_67 ?_
      refine x_is (pc := 68) (j := 8 * l + k) dX7_span_68 (by assumption) (by omega) (by omega) (by omega) ?_
      have Ca := C.keep (hp' := up hp 94 (ar 0 64 (up S (8 * l + k) 1))) (up_n _ _ (by omega))
      have Da := D.upS (S' := up S (8 * l + k) 1)
      obtain ⟨C0, C1, C2, C3, C4, C5, C6, C7, C8, C11, C12, C13, C14, C15, C16, C17, C18, C19, C20, C21, C22, C23⟩ := id Ca
      obtain ⟨D1, D2, D3, D4⟩ := id Da
      refine x_iload (pc := 69) dX7_span_69 rfl ?_
      refine x_iload (pc := 71) dX7_span_71 rfl ?_
      refine x_icmp_ge (pc := 73) (tgt := 90) dX7_span_73 (by decide) (by omega) (by omega) (fun c73 => ?_) (fun c73 => ?_)
      · refine x_iinc (pc := 90) dX7_span_90 rfl (by decide) rfl ?_
        show Ex _ _ _ _ _ _ [_, _, _, _, _, _] _ _ _ _
        refine x_goto (pc := 93) (tgt := 49) dX7_span_93 (by decide) ?_
        first
          | exact ih _ _ _ (Ca.keep (up_n _ _ (by omega))) (Da.upT (T' := up T (l * 128 + k * 16) 1)) (fun h S1 T1 C1 d1 f1 e1 e3 e4 => hq h S1 T1 C1 d1 (((Fr.rf.up (by omega) (by omega)).up (by omega) (by omega)).tr f1) (fun x => by
            rw [e1 x]
            by_cases e : x = 8 * l + k
            · subst e
              rw [if_neg (by omega), up_s, if_pos (by omega)]
            · rw [up_n _ _ e]
              by_cases e2 : 8 * l + (k + 1) ≤ x ∧ x < 8 * l + b + 1
              · rw [if_pos e2, if_pos (by omega)]
              · rw [if_neg e2, if_neg (by omega)]) (fun j h1 h2 => by
            by_cases e : j = k
            · subst e
              rw [e4 _ (fun i h5 h6 => by omega)]
              exact up_s _ _ _
            · exact e3 j (by omega) h2) (fun x hx => by
            rw [e4 x (fun j h5 h6 => hx j (by omega) h6)]
            exact up_n _ _ (by have := hx k (by omega) (by omega); omega)))
          | exact ih _ _ _ Ca Da (fun h S1 T1 C1 d1 f1 e1 e3 e4 => hq h S1 T1 C1 d1 ((Fr.rf.up (by omega) (by omega)).tr f1) (fun x => by
            rw [e1 x]
            by_cases e : x = 8 * l + k
            · subst e
              rw [if_neg (by omega), up_s, if_pos (by omega)]
            · rw [up_n _ _ e]
              by_cases e2 : 8 * l + (k + 1) ≤ x ∧ x < 8 * l + b + 1
              · rw [if_pos e2, if_pos (by omega)]
              · rw [if_neg e2, if_neg (by omega)]) (fun j h1 h2 => e3 j (by omega) h2) (fun x hx => e4 x (fun j h5 h6 => hx j (by omega) h6)))
      · refine x_aload_n (pc := 76) dX7_span_76 rfl ?_
        refine x_gf (pc := 77) dX7_span_77 fX7_16 (by assumption) (by omega) ?_
        refine x_iload_n (pc := 80) dX7_span_80 rfl ?_
        refine x_iload (pc := 81) dX7_span_81 rfl ?_
        refine x_iconst (pc := 83) dX7_span_83 ?_
        refine x_iconst (pc := 84) dX7_span_84 ?_
        refine x_t4 (pc := 85) dX7_span_85 wX7_cell sX7_cell kX7_128 (by decide) rfl (Nat.le_of_ble_eq_true rfl) (m_cell (r := 0) (c := 0)) ?_
        refine x_iconst (pc := 88) dX7_span_88 ?_
        refine x_is (pc := 89) (j := l * 128 + k * 16) dX7_span_89 (by assumption) (by omega) (by omega) (by omega) ?_
        refine x_iinc (pc := 90) dX7_span_90 rfl (by decide) rfl ?_
        show Ex _ _ _ _ _ _ [_, _, _, _, _, _] _ _ _ _
        refine x_goto (pc := 93) (tgt := 49) dX7_span_93 (by decide) ?_
        first
          | exact ih _ _ _ (Ca.keep (up_n _ _ (by omega))) (Da.upT (T' := up T (l * 128 + k * 16) 1)) (fun h S1 T1 C1 d1 f1 e1 e3 e4 => hq h S1 T1 C1 d1 (((Fr.rf.up (by omega) (by omega)).up (by omega) (by omega)).tr f1) (fun x => by
            rw [e1 x]
            by_cases e : x = 8 * l + k
            · subst e
              rw [if_neg (by omega), up_s, if_pos (by omega)]
            · rw [up_n _ _ e]
              by_cases e2 : 8 * l + (k + 1) ≤ x ∧ x < 8 * l + b + 1
              · rw [if_pos e2, if_pos (by omega)]
              · rw [if_neg e2, if_neg (by omega)]) (fun j h1 h2 => by
            by_cases e : j = k
            · subst e
              rw [e4 _ (fun i h5 h6 => by omega)]
              exact up_s _ _ _
            · exact e3 j (by omega) h2) (fun x hx => by
            rw [e4 x (fun j h5 h6 => hx j (by omega) h6)]
            exact up_n _ _ (by have := hx k (by omega) (by omega); omega)))
          | exact ih _ _ _ Ca Da (fun h S1 T1 C1 d1 f1 e1 e3 e4 => hq h S1 T1 C1 d1 ((Fr.rf.up (by omega) (by omega)).tr f1) (fun x => by
            rw [e1 x]
            by_cases e : x = 8 * l + k
            · subst e
              rw [if_neg (by omega), up_s, if_pos (by omega)]
            · rw [up_n _ _ e]
              by_cases e2 : 8 * l + (k + 1) ≤ x ∧ x < 8 * l + b + 1
              · rw [if_pos e2, if_pos (by omega)]
              · rw [if_neg e2, if_neg (by omega)]) (fun j h1 h2 => e3 j (by omega) h2) (fun x hx => e4 x (fun j h5 h6 => hx j (by omega) h6)))

set_option maxRecDepth 4000 in
theorem m_span {G : GL} {d : Nat} {hp : HP} {sz : Nat} {p N : Nat} (C : ModA hp p N) (hz : 615 ≤ sz) (hN : 1 ≤ N ∧ N ≤ 8) {W : Nat → Nat} {S T : Nat → Int} (D : MdS hp W S T) {x : Int} (hx : -2147483648 ≤ x ∧ x < 2147483648) {y : Int} (hy : -2147483648 ≤ y ∧ y < 2147483648) {u : Int} (hu : -2147483648 ≤ u ∧ u < 2147483648) {v : Int} (hv : -2147483648 ≤ v ∧ v < 2147483648) : Ct G (d + 2) 0 0 mX7_span [vr 92, vi x, vi y, vi u, vi v] hp sz (Vs (fun r h => ((0 ≤ x ∧ x < 8 ∧ 0 ≤ y ∧ y < 2 ^ (N - 1) ∧ 0 ≤ u ∧ u ≤ v ∧ v < N) ∧ r = vi 1 ∧ ModA h p N ∧ Fr hp h 93 95 ∧ ∃ S1 T1, MdS h (up W x.toNat y.toNat) S1 T1 ∧ (∀ q, S1 q = if 8 * x.toNat ≤ q ∧ q < 8 * x.toNat + 8 then (if 8 * x.toNat + u.toNat ≤ q ∧ q ≤ 8 * x.toNat + v.toNat then 1 else 0) else S q) ∧ (∀ j, u.toNat ≤ j → j < v.toNat → T1 (x.toNat * 128 + j * 16) = 1) ∧ ∀ q, (∀ j, u.toNat ≤ j → j < v.toNat → q ≠ x.toNat * 128 + j * 16) → T1 q = if 128 * x.toNat ≤ q ∧ q < 128 * x.toNat + 128 then 0 else T q) ∨ ((¬ (0 ≤ x ∧ x < 8 ∧ 0 ≤ y ∧ y < 2 ^ (N - 1) ∧ 0 ≤ u ∧ u ≤ v ∧ v < N)) ∧ r = vi 0 ∧ h = hp)) sz) := by
  show Ex _ _ _ _ _ _ [vr 92, vi x, vi y, vi u, vi v, vu] _ _ _ _
  obtain ⟨C0, C1, C2, C3, C4, C5, C6, C7, C8, C11, C12, C13, C14, C15, C16, C17, C18, C19, C20, C21, C22, C23⟩ := id C
  have hob := C0.ob
  have hp7 := pw7 hN
  refine x_iload_n (pc := 0) dX7_span_0 rfl ?_
  refine x_t1 (pc := 1) dX7_span_1 wX7_isLaying sX7_isLaying kX7_104 (by decide) rfl (Nat.le_of_ble_eq_true rfl) (m_isLaying hx) ?_
  refine x_if_eq (pc := 4) (tgt := 38) dX7_span_4 (by decide) (bz_rg _) (fun c4 => ?_) (fun c4 => ?_)
  · have d1 := bz_e c4
    refine x_iconst (pc := 38) dX7_span_38 ?_
    refine x_zret (pc := 39) dX7_span_39 rfl (by omega) ⟨_, rfl, rfl, Or.inr ⟨fun h => by omega, rfl, rfl⟩⟩
  · have d1 := bz_n c4
    refine x_aload_n (pc := 7) dX7_span_7 rfl ?_
    refine x_iload_n (pc := 8) dX7_span_8 rfl ?_
    refine x_w1 (pc := 9) dX7_span_9 wX7_areWays iX7_areWays kX7_108 (by decide) rfl (Nat.le_of_ble_eq_true rfl) (by assumption) (by omega) (m_areWays C hz hN hy) ?_
    refine x_if_eq (pc := 12) (tgt := 38) dX7_span_12 (by decide) (bz_rg _) (fun c12 => ?_) (fun c12 => ?_)
    · have d2 := bz_e c12
      refine x_iconst (pc := 38) dX7_span_38 ?_
      refine x_zret (pc := 39) dX7_span_39 rfl (by omega) ⟨_, rfl, rfl, Or.inr ⟨fun h => by omega, rfl, rfl⟩⟩
    · have d2 := bz_n c12
      refine x_aload_n (pc := 15) dX7_span_15 rfl ?_
      refine x_iload_n (pc := 16) dX7_span_16 rfl ?_
      refine x_w1 (pc := 17) dX7_span_17 wX7_isPost iX7_isPost kX7_136 (by decide) rfl (Nat.le_of_ble_eq_true rfl) (by assumption) (by omega) (m_isPost C hz hN hu) ?_
      refine x_if_eq (pc := 20) (tgt := 38) dX7_span_20 (by decide) (bz_rg _) (fun c20 => ?_) (fun c20 => ?_)
      · have d3 := bz_e c20
        refine x_iconst (pc := 38) dX7_span_38 ?_
        refine x_zret (pc := 39) dX7_span_39 rfl (by omega) ⟨_, rfl, rfl, Or.inr ⟨fun h => by omega, rfl, rfl⟩⟩
      · have d3 := bz_n c20
        refine x_aload_n (pc := 23) dX7_span_23 rfl ?_
        refine x_iload (pc := 24) dX7_span_24 rfl ?_
        refine x_w1 (pc := 26) dX7_span_26 wX7_isPost iX7_isPost kX7_136 (by decide) rfl (Nat.le_of_ble_eq_true rfl) (by assumption) (by omega) (m_isPost C hz hN hv) ?_
        refine x_if_eq (pc := 29) (tgt := 38) dX7_span_29 (by decide) (bz_rg _) (fun c29 => ?_) (fun c29 => ?_)
        · have d4 := bz_e c29
          refine x_iconst (pc := 38) dX7_span_38 ?_
          refine x_zret (pc := 39) dX7_span_39 rfl (by omega) ⟨_, rfl, rfl, Or.inr ⟨fun h => by omega, rfl, rfl⟩⟩
        · have d4 := bz_n c29
          refine x_iload_n (pc := 32) dX7_span_32 rfl ?_
          refine x_iload (pc := 33) dX7_span_33 rfl ?_
          refine x_icmp_le (pc := 35) (tgt := 40) dX7_span_35 (by decide) (by omega) (by omega) (fun c35 => ?_) (fun c35 => ?_)
          · obtain ⟨l, rfl⟩ : ∃ l : Nat, x = (l : Int) := ⟨x.toNat, by omega⟩
            obtain ⟨w, rfl⟩ : ∃ w : Nat, y = (w : Int) := ⟨y.toNat, by omega⟩
            obtain ⟨a, rfl⟩ : ∃ a : Nat, u = (a : Int) := ⟨u.toNat, by omega⟩
            obtain ⟨b, rfl⟩ : ∃ b : Nat, v = (b : Int) := ⟨v.toNat, by omega⟩
            simp only [Int.toNat_natCast]
            refine x_aload_n (pc := 40) dX7_span_40 rfl ?_
            refine x_iload_n (pc := 41) dX7_span_41 rfl ?_
            refine x_iload_n (pc := 42) dX7_span_42 rfl ?_
            refine x_p2 (pc := 43) dX7_span_43 wX7_clear iX7_clear kX7_111 (by decide) rfl (Nat.le_of_ble_eq_true rfl) (by assumption) (by omega) (m_clear C hz hN D (l := l) (w := w) (by omega) (by omega)) (fun h43 e43 => ?_)
            obtain ⟨C9, f9, S2, T2, D9, e2, e3⟩ := e43
            refine x_iload_n (pc := 46) dX7_span_46 rfl ?_
            refine x_istore (pc := 47) dX7_span_47 (by decide) rfl ?_
            show Ex _ _ _ _ _ _ [_, _, _, _, _, _] _ _ _ _
            exact k_span hz (by omega) (by omega) a (by omega) h43 S2 T2 C9 D9 (fun h S1 T1 C1 d1 f1 e4 e5 e6 => ⟨_, rfl, rfl, Or.inl ⟨⟨by omega, by omega, by omega, by omega, by omega, by omega, by omega⟩, rfl, C1, f9.tr f1, S1, T1, d1, fun q => by
              rw [e4 q, e2 q]
              by_cases h1 : 8 * l ≤ q ∧ q < 8 * l + 8
              · rw [if_pos h1, if_pos h1]
                by_cases h2 : 8 * l + a ≤ q ∧ q ≤ 8 * l + b
                · rw [if_pos (by omega), if_pos h2]
                · rw [if_neg (by omega), if_neg h2]
              · rw [if_neg h1, if_neg h1, if_neg (by omega)], e5, fun q hq => (e6 q hq).trans (e3 q)⟩⟩)
          · refine x_iconst (pc := 38) dX7_span_38 ?_
            refine x_zret (pc := 39) dX7_span_39 rfl (by omega) ⟨_, rfl, rfl, Or.inr ⟨fun h => by omega, rfl, rfl⟩⟩

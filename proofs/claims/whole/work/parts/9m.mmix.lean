theorem k_mb1 {G : GL} {d : Nat} {hp : HP} {sz p N : Nat} (C : ModA hp p N) (hz : 615 ≤ sz) (hN : 1 ≤ N ∧ N ≤ 8) {W : Nat → Nat} {S T : Nat → Int} (D : MdS hp W S T) {a b t : Nat} (ha : a < 8) (hb : b < 8) {sA sB : Nat → Nat} (hsA : sz8 S a sA) (hsB : sz8 S b sB) {Q : Option AV → HP → Nat → Prop} {v5 v6 v7 v8 : AV} (hno : (∃ j, j < N ∧ ¬ sA j + sB j ≤ 4) → Q (some (vi 0)) hp sz) : ∀ k, k ≤ N → ((∀ j, k ≤ j → j < N → sA j + sB j ≤ 4) → Ex G (d + 2) 0 0 mX7_beside 77 [vr 92, vi a, vi b, vi t, vi N, v5, v6, v7, v8] [] hp sz Q) → Ex G (d + 2) 0 0 mX7_beside 41 [vr 92, vi a, vi b, vi t, vi k, v5, v6, v7, v8] [] hp sz Q := by
  obtain ⟨C0, C1, C2, C3, C4, C5, C6, C7, C8, C11, C12, C13, C14, C15, C16, C17, C18, C19, C20, C21, C22, C23⟩ := id C
  have hob := C0.ob
  refine down (fun hq => ?_) (fun k hk ih hq => ?_)
  · refine x_iload (pc := 41) dX7_beside_41 rfl ?_
    refine x_aload_n (pc := 43) dX7_beside_43 rfl ?_
    refine x_gf (pc := 44) dX7_beside_44 fX7_93 (by assumption) (by omega) ?_
    refine x_icmp_ge (pc := 47) (tgt := 77) dX7_beside_47 (by decide) (by omega) (by omega) (fun c47 => ?_) (fun c47 => ?_)
    · exact hq (fun j h1 h2 => absurd h2 (by omega))
    · exact absurd c47 (by omega)
  · refine x_iload (pc := 41) dX7_beside_41 rfl ?_
    refine x_aload_n (pc := 43) dX7_beside_43 rfl ?_
    refine x_gf (pc := 44) dX7_beside_44 fX7_93 (by assumption) (by omega) ?_
    refine x_icmp_ge (pc := 47) (tgt := 77) dX7_beside_47 (by decide) (by omega) (by omega) (fun c47 => ?_) (fun c47 => ?_)
    · exact absurd c47 (by omega)
    · refine x_aload_n (pc := 50) dX7_beside_50 rfl ?_
      refine x_iload_n (pc := 51) dX7_beside_51 rfl ?_
      refine x_iload (pc := 52) dX7_beside_52 rfl ?_
      refine x_w2 (pc := 54) dX7_beside_54 wX7_at iX7_at kX7_118 (by decide) rfl (Nat.le_of_ble_eq_true rfl) (by assumption) (by omega) (m_at C hz hN D ha (by omega)) ?_
      rw [(hsA _ (by omega)).1]
      refine x_aload_n (pc := 57) dX7_beside_57 rfl ?_
      refine x_iload_n (pc := 58) dX7_beside_58 rfl ?_
      refine x_iload (pc := 59) dX7_beside_59 rfl ?_
      refine x_w2 (pc := 61) dX7_beside_61 wX7_at iX7_at kX7_118 (by decide) rfl (Nat.le_of_ble_eq_true rfl) (by assumption) (by omega) (m_at C hz hN D hb (by omega)) ?_
      rw [(hsB _ (by omega)).1]
      refine x_iadd (pc := 64) dX7_beside_64 ?_
      refine x_iconst (pc := 65) dX7_beside_65 ?_
      refine x_icmp_le (pc := 66) (tgt := 71) dX7_beside_66 (by decide) (by have := (hsA k (by omega)).2; have := (hsB k (by omega)).2; omega) (by omega) (fun c66 => ?_) (fun c66 => ?_)
      · refine x_iinc (pc := 71) dX7_beside_71 rfl (by decide) rfl ?_
        show Ex _ _ _ _ _ _ [_, _, _, _, _, _, _, _, _] _ _ _ _
        refine x_goto (pc := 74) (tgt := 41) dX7_beside_74 (by decide) ?_
        exact ih (fun h => hq (fun j h1 h2 => by
          by_cases e : j = k
          · subst e; omega
          · exact h j (by omega) h2))
      · refine x_iconst (pc := 69) dX7_beside_69 ?_
        refine x_zret (pc := 70) dX7_beside_70 rfl (Or.inl rfl) (hno ⟨k, hk, by omega⟩)

set_option maxRecDepth 4000 in
theorem m_beside {G : GL} {d : Nat} {hp : HP} {sz p N : Nat} (C : ModA hp p N) (hz : 615 ≤ sz) (hN : 1 ≤ N ∧ N ≤ 8) {W : Nat → Nat} {S T : Nat → Int} (D : MdS hp W S T) (hS : inSm S) (nw : ∃ A E, NwA hp A E) {x : Int} (hx : -2147483648 ≤ x ∧ x < 2147483648) {y : Int} (hy : -2147483648 ≤ y ∧ y < 2147483648) {z : Int} (hz1 : -2147483648 ≤ z ∧ z < 2147483648) : Ct G (d + 2) 0 0 mX7_beside [vr 92, vi x, vi y, vi z] hp sz (Vs (fun v h => ((0 ≤ x ∧ x < 8 ∧ 0 ≤ y ∧ y < 8 ∧ 0 ≤ z ∧ z < 8 ∧ W x.toNat = W y.toNat ∧ ∀ j, j < N → szs S x.toNat j + szs S y.toNat j ≤ 4) ∧ v = vi 1 ∧ ModA h p N ∧ Fr hp h 93 97 ∧ (∃ A E, NwA h A E) ∧ ∃ S1 T1, MdS h (up W z.toNat (W x.toNat)) S1 T1 ∧ (∀ j, j < 8 → S1 (8 * z.toNat + j) = if j < N then S (8 * x.toNat + j) + S (8 * y.toNat + j) else S (8 * x.toNat + j)) ∧ (∀ i, (i < 8 * z.toNat ∨ 8 * z.toNat + 8 ≤ i) → S1 i = S i) ∧ (∀ i, i < 128 → T1 (128 * z.toNat + i) = bE (Lw (W x.toNat)) (szs S x.toNat) (szs S y.toNat) T (fun i => T (128 * x.toNat + i)) y.toNat (N - 1) 0 0 i) ∧ ∀ i, (i < 128 * z.toNat ∨ 128 * z.toNat + 128 ≤ i) → T1 i = T i) ∨ ((¬ (0 ≤ x ∧ x < 8 ∧ 0 ≤ y ∧ y < 8 ∧ 0 ≤ z ∧ z < 8 ∧ W x.toNat = W y.toNat ∧ ∀ j, j < N → szs S x.toNat j + szs S y.toNat j ≤ 4)) ∧ v = vi 0 ∧ h = hp)) sz) := by
  show Ex _ _ _ _ _ _ [vr 92, vi x, vi y, vi z, vu, vu, vu, vu, vu] _ _ _ _
  obtain ⟨A, E, Nw⟩ := nw
  obtain ⟨C0, C1, C2, C3, C4, C5, C6, C7, C8, C11, C12, C13, C14, C15, C16, C17, C18, C19, C20, C21, C22, C23⟩ := id C
  have hob := C0.ob
  obtain ⟨D1, D2, D3, D4⟩ := id D
  refine x_iload_n (pc := 0) dX7_beside_0 rfl ?_
  refine x_t1 (pc := 1) dX7_beside_1 wX7_isLaying sX7_isLaying kX7_104 (by decide) rfl (Nat.le_of_ble_eq_true rfl) (m_isLaying hx) ?_
  refine x_if_eq (pc := 4) (tgt := 36) dX7_beside_4 (by decide) (bz_rg _) (fun c4 => ?_) (fun c4 => ?_)
  · have d1 := bz_e c4
    refine x_iconst (pc := 36) dX7_beside_36 ?_
    refine x_zret (pc := 37) dX7_beside_37 rfl (Or.inl rfl) (by first | exact ⟨_, rfl, rfl, Or.inr ⟨fun q => by omega, rfl, rfl⟩⟩ | exact ⟨_, rfl, rfl, Or.inr ⟨fun q => by have := q.2.2.2.2.2.2.1; omega, rfl, rfl⟩⟩)
  · have d1 := bz_n c4
    refine x_iload_n (pc := 7) dX7_beside_7 rfl ?_
    refine x_t1 (pc := 8) dX7_beside_8 wX7_isLaying sX7_isLaying kX7_104 (by decide) rfl (Nat.le_of_ble_eq_true rfl) (m_isLaying hy) ?_
    refine x_if_eq (pc := 11) (tgt := 36) dX7_beside_11 (by decide) (bz_rg _) (fun c11 => ?_) (fun c11 => ?_)
    · have d2 := bz_e c11
      refine x_iconst (pc := 36) dX7_beside_36 ?_
      refine x_zret (pc := 37) dX7_beside_37 rfl (Or.inl rfl) (by first | exact ⟨_, rfl, rfl, Or.inr ⟨fun q => by omega, rfl, rfl⟩⟩ | exact ⟨_, rfl, rfl, Or.inr ⟨fun q => by have := q.2.2.2.2.2.2.1; omega, rfl, rfl⟩⟩)
    · have d2 := bz_n c11
      refine x_iload_n (pc := 14) dX7_beside_14 rfl ?_
      refine x_t1 (pc := 15) dX7_beside_15 wX7_isLaying sX7_isLaying kX7_104 (by decide) rfl (Nat.le_of_ble_eq_true rfl) (m_isLaying hz1) ?_
      refine x_if_eq (pc := 18) (tgt := 36) dX7_beside_18 (by decide) (bz_rg _) (fun c18 => ?_) (fun c18 => ?_)
      · have d3 := bz_e c18
        refine x_iconst (pc := 36) dX7_beside_36 ?_
        refine x_zret (pc := 37) dX7_beside_37 rfl (Or.inl rfl) (by first | exact ⟨_, rfl, rfl, Or.inr ⟨fun q => by omega, rfl, rfl⟩⟩ | exact ⟨_, rfl, rfl, Or.inr ⟨fun q => by have := q.2.2.2.2.2.2.1; omega, rfl, rfl⟩⟩)
      · have d3 := bz_n c18
        obtain ⟨t, rfl⟩ : ∃ l : Nat, z = (l : Int) := ⟨z.toNat, by omega⟩
        obtain ⟨a, rfl⟩ : ∃ l : Nat, x = (l : Int) := ⟨x.toNat, by omega⟩
        obtain ⟨b, rfl⟩ : ∃ l : Nat, y = (l : Int) := ⟨y.toNat, by omega⟩
        simp only [Int.toNat_natCast]
        have ha : a < 8 := by omega
        have hb : b < 8 := by omega
        have hwa := D4 a ha
        have hwb := D4 b hb
        refine x_aload_n (pc := 21) dX7_beside_21 rfl ?_
        refine x_gf (pc := 22) dX7_beside_22 fX7_9 (by assumption) (by omega) ?_
        refine x_iload_n (pc := 25) dX7_beside_25 rfl ?_
        refine x_il (pc := 26) dX7_beside_26 (by assumption) (by omega) rfl (by omega) ?_
        refine x_aload_n (pc := 27) dX7_beside_27 rfl ?_
        refine x_gf (pc := 28) dX7_beside_28 fX7_9 (by assumption) (by omega) ?_
        refine x_iload_n (pc := 31) dX7_beside_31 rfl ?_
        refine x_il (pc := 32) dX7_beside_32 (by assumption) (by omega) rfl (by omega) ?_
        refine x_icmp_eq (pc := 33) (tgt := 38) dX7_beside_33 (by decide) (by omega) (by omega) (fun c33 => ?_) (fun c33 => ?_)
        · have hW : W a = W b := by omega
          refine x_iconst (pc := 38) dX7_beside_38 ?_
          refine x_istore (pc := 39) dX7_beside_39 (by decide) rfl ?_
          show Ex _ _ _ _ _ _ [_, _, _, _, _, _, _, _, _] _ _ _ _
          refine k_mb1 (d := d) (t := t) C hz hN D ha hb (szs_8 hS ha) (szs_8 hS hb) (fun q => ?_) 0 (by omega) (fun hfit' => ?_)
          · obtain ⟨j, q1, q2⟩ := q
            exact ⟨_, rfl, rfl, Or.inr ⟨fun q => q2 (q.2.2.2.2.2.2.2 j q1), rfl, rfl⟩⟩
          · have hfit : ∀ j, j < N → szs S a j + szs S b j ≤ 4 := fun j hj => hfit' j (by omega) hj
            refine x_aload_n (pc := 77) dX7_beside_77 rfl ?_
            refine x_iload_n (pc := 78) dX7_beside_78 rfl ?_
            refine x_p1 (pc := 79) dX7_beside_79 wX7_copies iX7_copies kX7_139 (by decide) rfl (Nat.le_of_ble_eq_true rfl) (by assumption) (by omega) (m_copies C hz hN D Nw (l := a) ha) (fun h79 e79 => ?_)
            obtain ⟨C1', D1', f79, A1, E1, n1, a1, e1⟩ := e79
            refine x_iconst (pc := 82) dX7_beside_82 ?_
            refine x_istore (pc := 83) dX7_beside_83 (by decide) rfl ?_
            show Ex _ _ _ _ _ _ [_, _, _, _, _, _, _, _, _] _ _ _ _
            have key2 := k_mb2 (G := G) (d := d) (t := t) (A0 := A1) (Q := (Vs (fun v h => ((0 ≤ (a : Int) ∧ (a : Int) < 8 ∧ 0 ≤ (b : Int) ∧ (b : Int) < 8 ∧ 0 ≤ (t : Int) ∧ (t : Int) < 8 ∧ W a = W b ∧ ∀ j, j < N → szs S a j + szs S b j ≤ 4) ∧ v = vi 1 ∧ ModA h p N ∧ Fr hp h 93 97 ∧ (∃ A E, NwA h A E) ∧ ∃ S1 T1, MdS h (up W t (W a)) S1 T1 ∧ (∀ j, j < 8 → S1 (8 * t + j) = if j < N then S (8 * a + j) + S (8 * b + j) else S (8 * a + j)) ∧ (∀ i, (i < 8 * t ∨ 8 * t + 8 ≤ i) → S1 i = S i) ∧ (∀ i, i < 128 → T1 (128 * t + i) = bE (Lw (W a)) (szs S a) (szs S b) T (fun i => T (128 * a + i)) b (N - 1) 0 0 i) ∧ ∀ i, (i < 128 * t ∨ 128 * t + 128 ≤ i) → T1 i = T i) ∨ ((¬ (0 ≤ (a : Int) ∧ (a : Int) < 8 ∧ 0 ≤ (b : Int) ∧ (b : Int) < 8 ∧ 0 ≤ (t : Int) ∧ (t : Int) < 8 ∧ W a = W b ∧ ∀ j, j < N → szs S a j + szs S b j ≤ 4)) ∧ v = vi 0 ∧ h = hp)) sz)) (v5 := vu) (v6 := vu) (v7 := vu) (v8 := vu) C1' hz hN D1' ha hb (szs_8 hS ha) (szs_8 hS hb) hfit ?_ 0 (by omega)
            · rw [show (fun j => if j < 0 then A1 j + S (8 * b + j) else A1 j) = A1 from funext fun z => if_neg (Nat.not_lt_zero _), show up h79 96 (ar 0 8 A1) = h79 from by
                funext z
                by_cases e : z = 96
                · rw [e, up_s, n1.1]
                · rw [up_n _ _ e]] at key2
              exact key2
            · refine x_iconst (pc := 117) dX7_beside_117 ?_
              refine x_istore (pc := 118) dX7_beside_118 (by decide) rfl ?_
              show Ex _ _ _ _ _ _ [_, _, _, _, _, _, _, _, _] _ _ _ _
              have C9 := C1'.keep (hp' := up h79 96 (ar 0 8 (fun j => if j < N then A1 j + S (8 * b + j) else A1 j))) (up_n _ _ (by omega))
              have D9 := D1'.keep (hp' := up h79 96 (ar 0 8 (fun j => if j < N then A1 j + S (8 * b + j) else A1 j))) (fun x h1 h2 => up_n _ _ (by omega))
              have key := k_mb3 (G := G) (d := d) (t := t) (E0 := E1) (Q := (Vs (fun v h => ((0 ≤ (a : Int) ∧ (a : Int) < 8 ∧ 0 ≤ (b : Int) ∧ (b : Int) < 8 ∧ 0 ≤ (t : Int) ∧ (t : Int) < 8 ∧ W a = W b ∧ ∀ j, j < N → szs S a j + szs S b j ≤ 4) ∧ v = vi 1 ∧ ModA h p N ∧ Fr hp h 93 97 ∧ (∃ A E, NwA h A E) ∧ ∃ S1 T1, MdS h (up W t (W a)) S1 T1 ∧ (∀ j, j < 8 → S1 (8 * t + j) = if j < N then S (8 * a + j) + S (8 * b + j) else S (8 * a + j)) ∧ (∀ i, (i < 8 * t ∨ 8 * t + 8 ≤ i) → S1 i = S i) ∧ (∀ i, i < 128 → T1 (128 * t + i) = bE (Lw (W a)) (szs S a) (szs S b) T (fun i => T (128 * a + i)) b (N - 1) 0 0 i) ∧ ∀ i, (i < 128 * t ∨ 128 * t + 128 ≤ i) → T1 i = T i) ∨ ((¬ (0 ≤ (a : Int) ∧ (a : Int) < 8 ∧ 0 ≤ (b : Int) ∧ (b : Int) < 8 ∧ 0 ≤ (t : Int) ∧ (t : Int) < 8 ∧ W a = W b ∧ ∀ j, j < N → szs S a j + szs S b j ≤ 4)) ∧ v = vi 0 ∧ h = hp)) sz)) C9 hz hN D9 ha hb (szs_8 hS ha) (szs_8 hS hb) hfit (fun v5 v6 v7 v8 => ?_) 0 (by omega) vu vu vu vu
              · rw [bE_0, show up (up h79 96 (ar 0 8 (fun j => if j < N then A1 j + S (8 * b + j) else A1 j))) 97 (ar 0 128 E1) = up h79 96 (ar 0 8 (fun j => if j < N then A1 j + S (8 * b + j) else A1 j)) from by
                  funext z
                  by_cases e : z = 97
                  · rw [e, up_s, up_n _ _ (by omega), n1.2]
                  · rw [up_n _ _ e]] at key
                exact key
              · have Cz := (C1'.keep (hp' := up h79 96 (ar 0 8 (fun j => if j < N then A1 j + S (8 * b + j) else A1 j))) (up_n _ _ (by omega))).keep (hp' := up (up h79 96 (ar 0 8 (fun j => if j < N then A1 j + S (8 * b + j) else A1 j))) 97 (ar 0 128 (bE (Lw (W a)) (szs S a) (szs S b) T E1 b (N - 1) 0 0))) (up_n _ _ (by omega))
                have Dz := (D1'.keep (hp' := up h79 96 (ar 0 8 (fun j => if j < N then A1 j + S (8 * b + j) else A1 j))) (fun x h1 h2 => up_n _ _ (by omega))).keep (hp' := up (up h79 96 (ar 0 8 (fun j => if j < N then A1 j + S (8 * b + j) else A1 j))) 97 (ar 0 128 (bE (Lw (W a)) (szs S a) (szs S b) T E1 b (N - 1) 0 0))) (fun x h1 h2 => up_n _ _ (by omega))
                have Nz := (n1.upA (A' := (fun j => if j < N then A1 j + S (8 * b + j) else A1 j))).upE (E' := (bE (Lw (W a)) (szs S a) (szs S b) T E1 b (N - 1) 0 0))
                have Fz : Fr hp (up (up h79 96 (ar 0 8 (fun j => if j < N then A1 j + S (8 * b + j) else A1 j))) 97 (ar 0 128 (bE (Lw (W a)) (szs S a) (szs S b) T E1 b (N - 1) 0 0))) 93 97 := ((f79.wide (by omega) (by omega)).up (by omega) (by omega)).up (by omega) (by omega)
                generalize up (up h79 96 (ar 0 8 (fun j => if j < N then A1 j + S (8 * b + j) else A1 j))) 97 (ar 0 128 (bE (Lw (W a)) (szs S a) (szs S b) T E1 b (N - 1) 0 0)) = hZ at Cz Dz Nz Fz ⊢
                obtain ⟨C0, C1, C2, C3, C4, C5, C6, C7, C8, C11, C12, C13, C14, C15, C16, C17, C18, C19, C20, C21, C22, C23⟩ := id Cz
                obtain ⟨D1, D2, D3, D4⟩ := id Dz
                have hobZ := C0.ob
                refine x_aload_n (pc := 243) dX7_beside_243 rfl ?_
                refine x_iload_n (pc := 244) dX7_beside_244 rfl ?_
                refine x_aload_n (pc := 245) dX7_beside_245 rfl ?_
                refine x_gf (pc := 246) dX7_beside_246 fX7_9 (by assumption) (by omega) ?_
                refine x_iload_n (pc := 249) dX7_beside_249 rfl ?_
                refine x_il (pc := 250) dX7_beside_250 (by assumption) (by omega) rfl (by omega) ?_
                refine x_p2 (pc := 251) dX7_beside_251 wX7_becomes iX7_becomes kX7_143 (by decide) rfl (Nat.le_of_ble_eq_true rfl) hobZ (by omega) (m_becomes Cz hz hN Dz Nz (l := t) (w := W a) (by omega) hwa) (fun h251 e251 => ?_)
                obtain ⟨C5', f5, S2, T2, D5, s2, t2⟩ := e251
                refine x_iconst (pc := 254) dX7_beside_254 ?_
                refine x_zret (pc := 255) dX7_beside_255 rfl (Or.inr rfl) ⟨_, rfl, rfl, Or.inl ⟨⟨by omega, by omega, by omega, by omega, by omega, by omega, hW, hfit⟩, rfl, C5', Fz.tr (f5.wide (by omega) (by omega)), ⟨_, _, Nz.keep (f5 _ (by omega)) (f5 _ (by omega))⟩, S2, T2, D5, fun j hj => by
                  rw [s2, if_pos (by omega), show 8 * t + j - 8 * t = j by omega]
                  by_cases l : j < N
                  · rw [if_pos l, if_pos l, a1 j hj]
                  · rw [if_neg l, if_neg l, a1 j hj], fun x hx => by rw [s2, if_neg (by omega)], fun x hx => by
                  rw [t2, if_pos (by omega), show 128 * t + x - 128 * t = x by omega]
                  unfold bE
                  by_cases q : dB (Lw (W a)) (szs S a) (szs S b) (N - 1) 0 0 x
                  · rw [if_pos q, if_pos q]
                  · rw [if_neg q, if_neg q, e1 x hx], fun x hx => by rw [t2, if_neg (by omega)]⟩⟩
        · refine x_iconst (pc := 36) dX7_beside_36 ?_
          refine x_zret (pc := 37) dX7_beside_37 rfl (Or.inl rfl) (by first | exact ⟨_, rfl, rfl, Or.inr ⟨fun q => by omega, rfl, rfl⟩⟩ | exact ⟨_, rfl, rfl, Or.inr ⟨fun q => by have := q.2.2.2.2.2.2.1; omega, rfl, rfl⟩⟩)

def rowRm (p l k i j C : Nat) (c : Int) (T T' : Nat → Int) : Prop := (∀ q, q < C → T' (l * 128 + k * 16 + i * 4 + q) = (T (l * 128 + k * 16 + i * 4 + q) + c * T (l * 128 + k * 16 + j * 4 + q)) % p) ∧ ∀ x, (∀ q, q < C → x ≠ l * 128 + k * 16 + i * 4 + q) → T' x = T x
def colRm (p l k i j C : Nat) (c : Int) (T T' : Nat → Int) : Prop := (∀ q, q < C → T' (l * 128 + k * 16 + q * 4 + j) = (T (l * 128 + k * 16 + q * 4 + j) - c * T (l * 128 + k * 16 + q * 4 + i)) % p) ∧ ∀ x, (∀ q, q < C → x ≠ l * 128 + k * 16 + q * 4 + j) → T' x = T x
def mixSm (p N l w : Nat) (s : Nat → Nat) (k post i j : Nat) (c : Int) (T T' : Nat → Int) : Prop :=
  if k + 1 < N then (if ta (Lw w) k = post then rowRm p l k i j (s (so (Lw w) k)) c T T' else colRm p l k i j (s (ta (Lw w) k)) c T T') else T' = T
theorem mixSm.inT {p N l w : Nat} {s : Nat → Nat} {k post i j : Nat} {c : Int} {T T' : Nat → Int} (h : mixSm p N l w s k post i j c T T') (hT : inTm T p) (hp : 0 < p) : inTm T' p := by
  unfold mixSm at h
  by_cases e1 : k + 1 < N
  · rw [if_pos e1] at h
    by_cases e2 : ta (Lw w) k = post
    · rw [if_pos e2] at h
      intro x hx
      by_cases e : ∃ q, q < s (so (Lw w) k) ∧ x = l * 128 + k * 16 + i * 4 + q
      · obtain ⟨q, hq, rfl⟩ := e
        rw [h.1 q hq]
        exact emod_rg hp
      · rw [h.2 x (fun q hq z => e ⟨q, hq, z⟩)]
        exact hT x hx
    · rw [if_neg e2] at h
      intro x hx
      by_cases e : ∃ q, q < s (ta (Lw w) k) ∧ x = l * 128 + k * 16 + q * 4 + j
      · obtain ⟨q, hq, rfl⟩ := e
        rw [h.1 q hq]
        exact emod_rg hp
      · rw [h.2 x (fun q hq z => e ⟨q, hq, z⟩)]
        exact hT x hx
  · rw [if_neg e1] at h
    rw [h]; exact hT

theorem k_mixr {G : GL} {d : Nat} {sz p N : Nat} (hz : 615 ≤ sz) (hN : 1 ≤ N ∧ N ≤ 8) (hP : isP p) {W : Nat → Nat} {S : Nat → Int} {l t i j : Nat} (hl : l < 8) (ht : t < N) (hi : i < 4) (hj : j < 4) (hij : i ≠ j) {s : Nat → Nat} (hs : sz8 S l s) {c : Int} (hc : 0 ≤ c ∧ c < p) {Q : Option AV → HP → Nat → Prop} {k : Nat} (hk : k + 1 < N) : ∀ x, x ≤ s (so (Lw (W l)) k) → ∀ (hp : HP) (T : Nat → Int), ModA hp p N → MdS hp W S T → inTm T p → (∀ h T1, ModA h p N → MdS h W S T1 → Fr hp h 95 95 → (∀ q, x ≤ q → q < s (so (Lw (W l)) k) → T1 (l * 128 + k * 16 + i * 4 + q) = (T (l * 128 + k * 16 + i * 4 + q) + c * T (l * 128 + k * 16 + j * 4 + q)) % p) → (∀ z, (∀ q, x ≤ q → q < s (so (Lw (W l)) k) → z ≠ l * 128 + k * 16 + i * 4 + q) → T1 z = T z) → Ex G (d + 2) 0 0 mX7_mix 189 [vr 92, vi l, vi t, vi i, vi j, vi c, vi k, vi (s (so (Lw (W l)) k) : Nat)] [] h sz Q) → Ex G (d + 2) 0 0 mX7_mix 115 [vr 92, vi l, vi t, vi i, vi j, vi c, vi k, vi x] [] hp sz Q := by
  have hpl := hP.le
  have hst := so_ta (Lf := Lw (W l)) (k := k)
  have hs4 := (hs (so (Lw (W l)) k) (by omega)).2
  refine down (fun hp T C D hT hq => ?_) (fun x hx ih hp T C D hT hq => ?_)
  · obtain ⟨C0, C1, C2, C3, C4, C5, C6, C7, C8, C11, C12, C13, C14, C15, C16, C17, C18, C19, C20, C21, C22, C23⟩ := id C
    have hob := C0.ob
    obtain ⟨D1, D2, D3, D4⟩ := id D
    refine x_iload (pc := 115) dX7_mix_115 rfl ?_
    refine x_aload_n (pc := 117) dX7_mix_117 rfl ?_
    refine x_iload_n (pc := 118) dX7_mix_118 rfl ?_
    refine x_aload_n (pc := 119) dX7_mix_119 rfl ?_
    refine x_iload_n (pc := 120) dX7_mix_120 rfl ?_
    refine x_iload (pc := 121) dX7_mix_121 rfl ?_
    refine x_w2 (pc := 123) dX7_mix_123 wX7_source iX7_source kX7_121 (by decide) rfl (Nat.le_of_ble_eq_true rfl) (by assumption) (by omega) (m_source C hz hN D hl (k := k) (by omega)) ?_
    rw [show (if (W l).testBit k = true then k + 1 else k) = so (Lw (W l)) k from rfl]
    refine x_w2 (pc := 126) dX7_mix_126 wX7_at iX7_at kX7_118 (by decide) rfl (Nat.le_of_ble_eq_true rfl) (by assumption) (by omega) (m_at C hz hN D hl (by omega)) ?_
    rw [(hs _ (by omega)).1]
    refine x_icmp_ge (pc := 129) (tgt := 189) dX7_mix_129 (by decide) (by omega) (by omega) (fun c129 => ?_) (fun c129 => ?_)
    · exact hq hp T C D Fr.rf (fun q h1 h2 => absurd h2 (by omega)) (fun z _ => rfl)
    · exact absurd c129 (by omega)
  · obtain ⟨C0, C1, C2, C3, C4, C5, C6, C7, C8, C11, C12, C13, C14, C15, C16, C17, C18, C19, C20, C21, C22, C23⟩ := id C
    have hob := C0.ob
    obtain ⟨D1, D2, D3, D4⟩ := id D
    refine x_iload (pc := 115) dX7_mix_115 rfl ?_
    refine x_aload_n (pc := 117) dX7_mix_117 rfl ?_
    refine x_iload_n (pc := 118) dX7_mix_118 rfl ?_
    refine x_aload_n (pc := 119) dX7_mix_119 rfl ?_
    refine x_iload_n (pc := 120) dX7_mix_120 rfl ?_
    refine x_iload (pc := 121) dX7_mix_121 rfl ?_
    refine x_w2 (pc := 123) dX7_mix_123 wX7_source iX7_source kX7_121 (by decide) rfl (Nat.le_of_ble_eq_true rfl) (by assumption) (by omega) (m_source C hz hN D hl (k := k) (by omega)) ?_
    rw [show (if (W l).testBit k = true then k + 1 else k) = so (Lw (W l)) k from rfl]
    refine x_w2 (pc := 126) dX7_mix_126 wX7_at iX7_at kX7_118 (by decide) rfl (Nat.le_of_ble_eq_true rfl) (by assumption) (by omega) (m_at C hz hN D hl (by omega)) ?_
    rw [(hs _ (by omega)).1]
    refine x_icmp_ge (pc := 129) (tgt := 189) dX7_mix_129 (by decide) (by omega) (by omega) (fun c129 => ?_) (fun c129 => ?_)
    · exact absurd c129 (by omega)
    · refine x_aload_n (pc := 132) dX7_mix_132 rfl ?_
      refine x_gf (pc := 133) dX7_mix_133 fX7_16 (by assumption) (by omega) ?_
      refine x_iload_n (pc := 136) dX7_mix_136 rfl ?_
      refine x_iload (pc := 137) dX7_mix_137 rfl ?_
      refine x_iload_n (pc := 139) dX7_mix_139 rfl ?_
      refine x_iload (pc := 140) dX7_mix_140 rfl ?_
      refine x_t4 (pc := 142) dX7_mix_142 wX7_cell sX7_cell kX7_128 (by decide) rfl (Nat.le_of_ble_eq_true rfl) (m_cell (l := l) (k := k) (r := i) (c := x)) ?_
      refine x_aload_n (pc := 145) dX7_mix_145 rfl ?_
      refine x_aload_n (pc := 146) dX7_mix_146 rfl ?_
      refine x_gf (pc := 147) dX7_mix_147 fX7_16 (by assumption) (by omega) ?_
      refine x_iload_n (pc := 150) dX7_mix_150 rfl ?_
      refine x_iload (pc := 151) dX7_mix_151 rfl ?_
      refine x_iload_n (pc := 153) dX7_mix_153 rfl ?_
      refine x_iload (pc := 154) dX7_mix_154 rfl ?_
      refine x_t4 (pc := 156) dX7_mix_156 wX7_cell sX7_cell kX7_128 (by decide) rfl (Nat.le_of_ble_eq_true rfl) (m_cell (l := l) (k := k) (r := i) (c := x)) ?_
      refine x_il (pc := 159) dX7_mix_159 (by assumption) (by omega) rfl (by omega) ?_
      refine x_iload (pc := 160) dX7_mix_160 rfl ?_
      refine x_aload_n (pc := 162) dX7_mix_162 rfl ?_
      refine x_gf (pc := 163) dX7_mix_163 fX7_16 (by assumption) (by omega) ?_
      refine x_iload_n (pc := 166) dX7_mix_166 rfl ?_
      refine x_iload (pc := 167) dX7_mix_167 rfl ?_
      refine x_iload (pc := 169) dX7_mix_169 rfl ?_
      refine x_iload (pc := 171) dX7_mix_171 rfl ?_
      refine x_t4 (pc := 173) dX7_mix_173 wX7_cell sX7_cell kX7_128 (by decide) rfl (Nat.le_of_ble_eq_true rfl) (m_cell (l := l) (k := k) (r := j) (c := x)) ?_
      refine x_il (pc := 176) dX7_mix_176 (by assumption) (by omega) rfl (by omega) ?_
      refine x_imul (pc := 177) dX7_mix_177 ?_
      refine x_iadd (pc := 178) dX7_mix_178 ?_
      refine x_w1 (pc := 179) dX7_mix_179 wX7_rest iX7_rest kX7_132 (by decide) rfl (Nat.le_of_ble_eq_true rfl) (by assumption) (by omega) (m_rest C hz hN hP (by have h8 := hT (l * 128 + k * 16 + i * 4 + x) (by omega); have h9 := mul13 hpl.2 (hT (l * 128 + k * 16 + j * 4 + x) (by omega)) ⟨hc.1, Int.le_of_lt hc.2⟩; rw [Int.mul_comm] at h9; omega)) ?_
      refine x_is (pc := 182) dX7_mix_182 (by assumption) (by omega) rfl (by omega) ?_
      refine x_iinc (pc := 183) dX7_mix_183 rfl (by decide) rfl ?_
      show Ex _ _ _ _ _ _ [_, _, _, _, _, _, _, _] _ _ _ _
      refine x_goto (pc := 186) (tgt := 115) dX7_mix_186 (by decide) ?_
      exact ih _ _ (C.keep (up_n _ _ (by omega))) D.upT (fun z hz9 => by
        by_cases e : z = l * 128 + k * 16 + i * 4 + x
        · subst e; rw [up_s]; exact emod_rg (by omega)
        · rw [up_n _ _ e]; exact hT z hz9) (fun h T1 C1 d1 f1 e1 e2 => hq h T1 C1 d1 ((Fr.rf.up (by omega) (by omega)).tr f1) (fun q h1 h2 => by
        by_cases e : q = x
        · subst e
          rw [e2 _ (fun x' h3 h4 => by omega), up_s]
        · rw [e1 q (by omega) h2, up_n _ _ (by omega), up_n _ _ (by omega)]) (fun z hz9 => by
        rw [e2 z (fun q h3 h4 => hz9 q (by omega) h4), up_n _ _ (hz9 x (by omega) hx)]))

theorem k_mixc {G : GL} {d : Nat} {sz p N : Nat} (hz : 615 ≤ sz) (hN : 1 ≤ N ∧ N ≤ 8) (hP : isP p) {W : Nat → Nat} {S : Nat → Int} {l t i j : Nat} (hl : l < 8) (ht : t < N) (hi : i < 4) (hj : j < 4) (hij : i ≠ j) {s : Nat → Nat} (hs : sz8 S l s) {c : Int} (hc : 0 ≤ c ∧ c < p) {Q : Option AV → HP → Nat → Prop} {k : Nat} (hk : k + 1 < N) : ∀ x, x ≤ s (ta (Lw (W l)) k) → ∀ (hp : HP) (T : Nat → Int), ModA hp p N → MdS hp W S T → inTm T p → (∀ h T1, ModA h p N → MdS h W S T1 → Fr hp h 95 95 → (∀ q, x ≤ q → q < s (ta (Lw (W l)) k) → T1 (l * 128 + k * 16 + q * 4 + j) = (T (l * 128 + k * 16 + q * 4 + j) - c * T (l * 128 + k * 16 + q * 4 + i)) % p) → (∀ z, (∀ q, x ≤ q → q < s (ta (Lw (W l)) k) → z ≠ l * 128 + k * 16 + q * 4 + j) → T1 z = T z) → Ex G (d + 2) 0 0 mX7_mix 270 [vr 92, vi l, vi t, vi i, vi j, vi c, vi k, vi (s (ta (Lw (W l)) k) : Nat)] [] h sz Q) → Ex G (d + 2) 0 0 mX7_mix 195 [vr 92, vi l, vi t, vi i, vi j, vi c, vi k, vi x] [] hp sz Q := by
  have hpl := hP.le
  have hst := so_ta (Lf := Lw (W l)) (k := k)
  have hs4 := (hs (ta (Lw (W l)) k) (by omega)).2
  refine down (fun hp T C D hT hq => ?_) (fun x hx ih hp T C D hT hq => ?_)
  · obtain ⟨C0, C1, C2, C3, C4, C5, C6, C7, C8, C11, C12, C13, C14, C15, C16, C17, C18, C19, C20, C21, C22, C23⟩ := id C
    have hob := C0.ob
    obtain ⟨D1, D2, D3, D4⟩ := id D
    refine x_iload (pc := 195) dX7_mix_195 rfl ?_
    refine x_aload_n (pc := 197) dX7_mix_197 rfl ?_
    refine x_iload_n (pc := 198) dX7_mix_198 rfl ?_
    refine x_aload_n (pc := 199) dX7_mix_199 rfl ?_
    refine x_iload_n (pc := 200) dX7_mix_200 rfl ?_
    refine x_iload (pc := 201) dX7_mix_201 rfl ?_
    refine x_w2 (pc := 203) dX7_mix_203 wX7_target iX7_target kX7_115 (by decide) rfl (Nat.le_of_ble_eq_true rfl) (by assumption) (by omega) (m_target C hz hN D hl (k := k) (by omega)) ?_
    rw [show (if (W l).testBit k = true then k else k + 1) = ta (Lw (W l)) k from rfl]
    refine x_w2 (pc := 206) dX7_mix_206 wX7_at iX7_at kX7_118 (by decide) rfl (Nat.le_of_ble_eq_true rfl) (by assumption) (by omega) (m_at C hz hN D hl (by omega)) ?_
    rw [(hs _ (by omega)).1]
    refine x_icmp_ge (pc := 209) (tgt := 270) dX7_mix_209 (by decide) (by omega) (by omega) (fun c209 => ?_) (fun c209 => ?_)
    · exact hq hp T C D Fr.rf (fun q h1 h2 => absurd h2 (by omega)) (fun z _ => rfl)
    · exact absurd c209 (by omega)
  · obtain ⟨C0, C1, C2, C3, C4, C5, C6, C7, C8, C11, C12, C13, C14, C15, C16, C17, C18, C19, C20, C21, C22, C23⟩ := id C
    have hob := C0.ob
    obtain ⟨D1, D2, D3, D4⟩ := id D
    refine x_iload (pc := 195) dX7_mix_195 rfl ?_
    refine x_aload_n (pc := 197) dX7_mix_197 rfl ?_
    refine x_iload_n (pc := 198) dX7_mix_198 rfl ?_
    refine x_aload_n (pc := 199) dX7_mix_199 rfl ?_
    refine x_iload_n (pc := 200) dX7_mix_200 rfl ?_
    refine x_iload (pc := 201) dX7_mix_201 rfl ?_
    refine x_w2 (pc := 203) dX7_mix_203 wX7_target iX7_target kX7_115 (by decide) rfl (Nat.le_of_ble_eq_true rfl) (by assumption) (by omega) (m_target C hz hN D hl (k := k) (by omega)) ?_
    rw [show (if (W l).testBit k = true then k else k + 1) = ta (Lw (W l)) k from rfl]
    refine x_w2 (pc := 206) dX7_mix_206 wX7_at iX7_at kX7_118 (by decide) rfl (Nat.le_of_ble_eq_true rfl) (by assumption) (by omega) (m_at C hz hN D hl (by omega)) ?_
    rw [(hs _ (by omega)).1]
    refine x_icmp_ge (pc := 209) (tgt := 270) dX7_mix_209 (by decide) (by omega) (by omega) (fun c209 => ?_) (fun c209 => ?_)
    · exact absurd c209 (by omega)
    · refine x_aload_n (pc := 212) dX7_mix_212 rfl ?_
      refine x_gf (pc := 213) dX7_mix_213 fX7_16 (by assumption) (by omega) ?_
      refine x_iload_n (pc := 216) dX7_mix_216 rfl ?_
      refine x_iload (pc := 217) dX7_mix_217 rfl ?_
      refine x_iload (pc := 219) dX7_mix_219 rfl ?_
      refine x_iload (pc := 221) dX7_mix_221 rfl ?_
      refine x_t4 (pc := 223) dX7_mix_223 wX7_cell sX7_cell kX7_128 (by decide) rfl (Nat.le_of_ble_eq_true rfl) (m_cell (l := l) (k := k) (r := x) (c := j)) ?_
      refine x_aload_n (pc := 226) dX7_mix_226 rfl ?_
      refine x_aload_n (pc := 227) dX7_mix_227 rfl ?_
      refine x_gf (pc := 228) dX7_mix_228 fX7_16 (by assumption) (by omega) ?_
      refine x_iload_n (pc := 231) dX7_mix_231 rfl ?_
      refine x_iload (pc := 232) dX7_mix_232 rfl ?_
      refine x_iload (pc := 234) dX7_mix_234 rfl ?_
      refine x_iload (pc := 236) dX7_mix_236 rfl ?_
      refine x_t4 (pc := 238) dX7_mix_238 wX7_cell sX7_cell kX7_128 (by decide) rfl (Nat.le_of_ble_eq_true rfl) (m_cell (l := l) (k := k) (r := x) (c := j)) ?_
      refine x_il (pc := 241) dX7_mix_241 (by assumption) (by omega) rfl (by omega) ?_
      refine x_iload (pc := 242) dX7_mix_242 rfl ?_
      refine x_aload_n (pc := 244) dX7_mix_244 rfl ?_
      refine x_gf (pc := 245) dX7_mix_245 fX7_16 (by assumption) (by omega) ?_
      refine x_iload_n (pc := 248) dX7_mix_248 rfl ?_
      refine x_iload (pc := 249) dX7_mix_249 rfl ?_
      refine x_iload (pc := 251) dX7_mix_251 rfl ?_
      refine x_iload_n (pc := 253) dX7_mix_253 rfl ?_
      refine x_t4 (pc := 254) dX7_mix_254 wX7_cell sX7_cell kX7_128 (by decide) rfl (Nat.le_of_ble_eq_true rfl) (m_cell (l := l) (k := k) (r := x) (c := i)) ?_
      refine x_il (pc := 257) dX7_mix_257 (by assumption) (by omega) rfl (by omega) ?_
      refine x_imul (pc := 258) dX7_mix_258 ?_
      refine x_isub (pc := 259) dX7_mix_259 ?_
      refine x_w1 (pc := 260) dX7_mix_260 wX7_rest iX7_rest kX7_132 (by decide) rfl (Nat.le_of_ble_eq_true rfl) (by assumption) (by omega) (m_rest C hz hN hP (by have h8 := hT (l * 128 + k * 16 + x * 4 + j) (by omega); have h9 := mul13 hpl.2 (hT (l * 128 + k * 16 + x * 4 + i) (by omega)) ⟨hc.1, Int.le_of_lt hc.2⟩; rw [Int.mul_comm] at h9; omega)) ?_
      refine x_is (pc := 263) dX7_mix_263 (by assumption) (by omega) rfl (by omega) ?_
      refine x_iinc (pc := 264) dX7_mix_264 rfl (by decide) rfl ?_
      show Ex _ _ _ _ _ _ [_, _, _, _, _, _, _, _] _ _ _ _
      refine x_goto (pc := 267) (tgt := 195) dX7_mix_267 (by decide) ?_
      exact ih _ _ (C.keep (up_n _ _ (by omega))) D.upT (fun z hz9 => by
        by_cases e : z = l * 128 + k * 16 + x * 4 + j
        · subst e; rw [up_s]; exact emod_rg (by omega)
        · rw [up_n _ _ e]; exact hT z hz9) (fun h T1 C1 d1 f1 e1 e2 => hq h T1 C1 d1 ((Fr.rf.up (by omega) (by omega)).tr f1) (fun q h1 h2 => by
        by_cases e : q = x
        · subst e
          rw [e2 _ (fun x' h3 h4 => by omega), up_s]
        · rw [e1 q (by omega) h2, up_n _ _ (by omega), up_n _ _ (by omega)]) (fun z hz9 => by
        rw [e2 z (fun q h3 h4 => hz9 q (by omega) h4), up_n _ _ (hz9 x (by omega) hx)]))

theorem k_mixk {G : GL} {d : Nat} {sz p N : Nat} (hz : 615 ≤ sz) (hN : 1 ≤ N ∧ N ≤ 8) (hP : isP p) {W : Nat → Nat} {S : Nat → Int} {l t i j : Nat} (hl : l < 8) (ht : t < N) (hi : i < 4) (hj : j < 4) (hij : i ≠ j) {s : Nat → Nat} (hs : sz8 S l s) {c : Int} (hc : 0 ≤ c ∧ c < p) {Q : Option AV → HP → Nat → Prop} {hp : HP} {T : Nat → Int} (C : ModA hp p N) (D : MdS hp W S T) (hT : inTm T p) {k : Nat} (hk : k < 8) {v7 : AV} (hq : ∀ h T1 v7, ModA h p N → MdS h W S T1 → Fr hp h 95 95 → mixSm p N l (W l) s k t i j c T T1 → Ex G (d + 2) 0 0 mX7_mix 270 [vr 92, vi l, vi t, vi i, vi j, vi c, vi k, v7] [] h sz Q) : Ex G (d + 2) 0 0 mX7_mix 82 [vr 92, vi l, vi t, vi i, vi j, vi c, vi k, v7] [] hp sz Q := by
  obtain ⟨C0, C1, C2, C3, C4, C5, C6, C7, C8, C11, C12, C13, C14, C15, C16, C17, C18, C19, C20, C21, C22, C23⟩ := id C
  have hob := C0.ob
  obtain ⟨D1, D2, D3, D4⟩ := id D
  refine x_iload (pc := 82) dX7_mix_82 rfl ?_
  refine x_if_lt (pc := 84) (tgt := 270) dX7_mix_84 (by decide) (by omega) (fun c84 => ?_) (fun c84 => ?_)
  · exact absurd c84 (by omega)
  · refine x_iload (pc := 87) dX7_mix_87 rfl ?_
    refine x_aload_n (pc := 89) dX7_mix_89 rfl ?_
    refine x_gf (pc := 90) dX7_mix_90 fX7_93 (by assumption) (by omega) ?_
    refine x_iconst (pc := 93) dX7_mix_93 ?_
    refine x_isub (pc := 94) dX7_mix_94 ?_
    refine x_icmp_le (pc := 95) (tgt := 101) dX7_mix_95 (by decide) (by omega) (by omega) (fun c95 => ?_) (fun c95 => ?_)
    · refine x_aload_n (pc := 101) dX7_mix_101 rfl ?_
      refine x_iload_n (pc := 102) dX7_mix_102 rfl ?_
      refine x_iload (pc := 103) dX7_mix_103 rfl ?_
      refine x_w2 (pc := 105) dX7_mix_105 wX7_target iX7_target kX7_115 (by decide) rfl (Nat.le_of_ble_eq_true rfl) (by assumption) (by omega) (m_target C hz hN D hl (k := k) (by omega)) ?_
      rw [show (if (W l).testBit k = true then k else k + 1) = ta (Lw (W l)) k from rfl]
      refine x_iload_n (pc := 108) dX7_mix_108 rfl ?_
      refine x_icmp_ne (pc := 109) (tgt := 192) dX7_mix_109 (by decide) (by have := so_ta (Lf := Lw (W l)) (k := k); omega) (by omega) (fun c109 => ?_) (fun c109 => ?_)
      · refine x_iconst (pc := 192) dX7_mix_192 ?_
        refine x_istore (pc := 193) dX7_mix_193 (by decide) rfl ?_
        show Ex _ _ _ _ _ _ [_, _, _, _, _, _, _, _] _ _ _ _
        refine k_mixc (d := d) hz hN hP hl ht hi hj hij hs hc (by omega) 0 (by omega) hp T C D hT (fun h T1 C1 d1 f1 e1 e2 => ?_)
        exact hq h T1 _ C1 d1 f1 (by unfold mixSm; rw [if_pos (by omega), if_neg (by omega)]; exact ⟨fun q hq => e1 q (by omega) hq, fun z hz9 => e2 z (fun q _ h => hz9 q h)⟩)
      · refine x_iconst (pc := 112) dX7_mix_112 ?_
        refine x_istore (pc := 113) dX7_mix_113 (by decide) rfl ?_
        show Ex _ _ _ _ _ _ [_, _, _, _, _, _, _, _] _ _ _ _
        refine k_mixr (d := d) hz hN hP hl ht hi hj hij hs hc (by omega) 0 (by omega) hp T C D hT (fun h T1 C1 d1 f1 e1 e2 => ?_)
        refine x_goto (pc := 189) (tgt := 270) dX7_mix_189 (by decide) ?_
        exact hq h T1 _ C1 d1 f1 (by unfold mixSm; rw [if_pos (by omega), if_pos (by omega)]; exact ⟨fun q hq => e1 q (by omega) hq, fun z hz9 => e2 z (fun q _ h => hz9 q h)⟩)
    · refine x_goto (pc := 98) (tgt := 270) dX7_mix_98 (by decide) ?_
      exact hq hp T _ C D Fr.rf (by unfold mixSm; rw [if_neg (by omega)])

theorem k_mixB {G : GL} {d : Nat} {sz p N : Nat} (hz : 615 ≤ sz) (hN : 1 ≤ N ∧ N ≤ 8) (hP : isP p) {W : Nat → Nat} {S : Nat → Int} {l t i j : Nat} (hl : l < 8) (ht : t < N) (hi : i < 4) (hj : j < 4) (hij : i ≠ j) {s : Nat → Nat} (hs : sz8 S l s) {c : Int} (hc : 0 ≤ c ∧ c < p) {Q : Option AV → HP → Nat → Prop} {hp : HP} {T : Nat → Int} (C : ModA hp p N) (D : MdS hp W S T) (hT : inTm T p) {v7 : AV} (hq : ∀ h T1, ModA h p N → MdS h W S T1 → Fr hp h 95 95 → mixSm p N l (W l) s t t i j c T T1 → Q (some (vi 1)) h sz) : Ex G (d + 2) 0 0 mX7_mix 76 [vr 92, vi l, vi t, vi i, vi j, vi c, vi t, v7] [] hp sz Q := by
  refine x_iload (pc := 76) dX7_mix_76 rfl ?_
  refine x_iload_n (pc := 78) dX7_mix_78 rfl ?_
  refine x_icmp_gt (pc := 79) (tgt := 276) dX7_mix_79 (by decide) (by omega) (by omega) (fun c79 => ?_) (fun c79 => ?_)
  · exact absurd c79 (by omega)
  · refine k_mixk (d := d) hz hN hP hl ht hi hj hij hs hc C D hT (by omega) (fun h T1 v7 C1 d1 f1 m1 => ?_)
    refine x_iinc (pc := 270) dX7_mix_270 rfl (by decide) rfl ?_
    show Ex _ _ _ _ _ _ [_, _, _, _, _, _, _, _] _ _ _ _
    refine x_goto (pc := 273) (tgt := 76) dX7_mix_273 (by decide) ?_
    refine x_iload (pc := 76) dX7_mix_76 rfl ?_
    refine x_iload_n (pc := 78) dX7_mix_78 rfl ?_
    refine x_icmp_gt (pc := 79) (tgt := 276) dX7_mix_79 (by decide) (by omega) (by omega) (fun c79 => ?_) (fun c79 => ?_)
    · refine x_iconst (pc := 276) dX7_mix_276 ?_
      refine x_zret (pc := 277) dX7_mix_277 rfl (Or.inr rfl) (hq h T1 C1 d1 f1 m1)
    · exact absurd c79 (by omega)

theorem k_mixA {G : GL} {d : Nat} {sz p N : Nat} (hz : 615 ≤ sz) (hN : 1 ≤ N ∧ N ≤ 8) (hP : isP p) {W : Nat → Nat} {S : Nat → Int} {l t i j : Nat} (hl : l < 8) (ht : t < N) (hi : i < 4) (hj : j < 4) (hij : i ≠ j) {s : Nat → Nat} (hs : sz8 S l s) {c : Int} (hc : 0 ≤ c ∧ c < p) {Q : Option AV → HP → Nat → Prop} {hp : HP} {T : Nat → Int} (C : ModA hp p N) (D : MdS hp W S T) (hT : inTm T p) {v7 : AV} (hq : ∀ h T2, ModA h p N → MdS h W S T2 → Fr hp h 95 95 → (∃ T1, (if 0 < t then mixSm p N l (W l) s (t - 1) t i j c T T1 else T1 = T) ∧ mixSm p N l (W l) s t t i j c T1 T2) → Q (some (vi 1)) h sz) : Ex G (d + 2) 0 0 mX7_mix 76 [vr 92, vi l, vi t, vi i, vi j, vi c, vi ((t : Int) - 1), v7] [] hp sz Q := by
  have hpl := hP.le
  obtain ⟨C0, C1, C2, C3, C4, C5, C6, C7, C8, C11, C12, C13, C14, C15, C16, C17, C18, C19, C20, C21, C22, C23⟩ := id C
  have hob := C0.ob
  by_cases t0 : 0 < t
  · refine x_iload (pc := 76) dX7_mix_76 rfl ?_
    refine x_iload_n (pc := 78) dX7_mix_78 rfl ?_
    refine x_icmp_gt (pc := 79) (tgt := 276) dX7_mix_79 (by decide) (by omega) (by omega) (fun c79 => ?_) (fun c79 => ?_)
    · exact absurd c79 (by omega)
    · rw [show (t : Int) - 1 = ((t - 1 : Nat) : Int) by omega]
      refine k_mixk (d := d) hz hN hP hl ht hi hj hij hs hc C D hT (by omega) (fun h T1 v7 C1 d1 f1 m1 => ?_)
      refine x_iinc (pc := 270) dX7_mix_270 rfl (by decide) rfl ?_
      show Ex _ _ _ _ _ _ [_, _, _, _, _, _, _, _] _ _ _ _
      refine x_goto (pc := 273) (tgt := 76) dX7_mix_273 (by decide) ?_
      rw [show ((t - 1 : Nat) : Int) + 1 = (t : Int) by omega]
      exact k_mixB (d := d) hz hN hP hl ht hi hj hij hs hc C1 d1 (m1.inT hT (by omega)) (fun h2 T2 C2 d2 f2 m2 => hq h2 T2 C2 d2 (f1.tr f2) ⟨T1, by rw [if_pos t0]; exact m1, m2⟩)
  · refine x_iload (pc := 76) dX7_mix_76 rfl ?_
    refine x_iload_n (pc := 78) dX7_mix_78 rfl ?_
    refine x_icmp_gt (pc := 79) (tgt := 276) dX7_mix_79 (by decide) (by omega) (by omega) (fun c79 => ?_) (fun c79 => ?_)
    · exact absurd c79 (by omega)
    · refine x_iload (pc := 82) dX7_mix_82 rfl ?_
      refine x_if_lt (pc := 84) (tgt := 270) dX7_mix_84 (by decide) (by omega) (fun c84 => ?_) (fun c84 => ?_)
      · refine x_iinc (pc := 270) dX7_mix_270 rfl (by decide) rfl ?_
        show Ex _ _ _ _ _ _ [_, _, _, _, _, _, _, _] _ _ _ _
        refine x_goto (pc := 273) (tgt := 76) dX7_mix_273 (by decide) ?_
        rw [show ((t : Int) - 1) + 1 = (t : Int) by omega]
        exact k_mixB (d := d) hz hN hP hl ht hi hj hij hs hc C D hT (fun h2 T2 C2 d2 f2 m2 => hq h2 T2 C2 d2 f2 ⟨T, by rw [if_neg t0], m2⟩)
      · exact absurd c84 (by omega)

set_option maxRecDepth 4000 in
theorem m_mix {G : GL} {d : Nat} {hp : HP} {sz p N : Nat} (C : ModA hp p N) (hz : 615 ≤ sz) (hN : 1 ≤ N ∧ N ≤ 8) (hP : isP p) {W : Nat → Nat} {S T : Nat → Int} (D : MdS hp W S T) (hS : inSm S) (hT : inTm T p) {x : Int} (hx : -2147483648 ≤ x ∧ x < 2147483648) {y : Int} (hy : -2147483648 ≤ y ∧ y < 2147483648) {u : Int} (hu : -2147483648 ≤ u ∧ u < 2147483648) {v : Int} (hv : -2147483648 ≤ v ∧ v < 2147483648) {z : Int} (hz1 : -2147483648 ≤ z ∧ z < 2147483648) : Ct G (d + 2) 0 0 mX7_mix [vr 92, vi x, vi y, vi u, vi v, vi z] hp sz (Vs (fun r h => ((0 ≤ x ∧ x < 8 ∧ 0 ≤ y ∧ y < N ∧ 0 ≤ u ∧ u < S (8 * x.toNat + y.toNat) ∧ 0 ≤ v ∧ v < S (8 * x.toNat + y.toNat) ∧ u ≠ v ∧ 0 ≤ z ∧ z < p) ∧ r = vi 1 ∧ ModA h p N ∧ Fr hp h 95 95 ∧ ∃ T1 T2, MdS h W S T2 ∧ (if 0 < y.toNat then mixSm p N x.toNat (W x.toNat) (szs S x.toNat) (y.toNat - 1) y.toNat u.toNat v.toNat z T T1 else T1 = T) ∧ mixSm p N x.toNat (W x.toNat) (szs S x.toNat) y.toNat y.toNat u.toNat v.toNat z T1 T2) ∨ ((¬ (0 ≤ x ∧ x < 8 ∧ 0 ≤ y ∧ y < N ∧ 0 ≤ u ∧ u < S (8 * x.toNat + y.toNat) ∧ 0 ≤ v ∧ v < S (8 * x.toNat + y.toNat) ∧ u ≠ v ∧ 0 ≤ z ∧ z < p)) ∧ r = vi 0 ∧ h = hp)) sz) := by
  show Ex _ _ _ _ _ _ [vr 92, vi x, vi y, vi u, vi v, vi z, vu, vu] _ _ _ _
  have hpl := hP.le
  obtain ⟨C0, C1, C2, C3, C4, C5, C6, C7, C8, C11, C12, C13, C14, C15, C16, C17, C18, C19, C20, C21, C22, C23⟩ := id C
  have hob := C0.ob
  refine x_iload_n (pc := 0) dX7_mix_0 rfl ?_
  refine x_t1 (pc := 1) dX7_mix_1 wX7_isLaying sX7_isLaying kX7_104 (by decide) rfl (Nat.le_of_ble_eq_true rfl) (m_isLaying hx) ?_
  refine x_if_eq (pc := 4) (tgt := 69) dX7_mix_4 (by decide) (bz_rg _) (fun c4 => ?_) (fun c4 => ?_)
  · have d1 := bz_e c4
    refine x_iconst (pc := 69) dX7_mix_69 ?_
    refine x_zret (pc := 70) dX7_mix_70 rfl (Or.inl rfl) ⟨_, rfl, rfl, Or.inr ⟨fun h => by first | omega | exact absurd ⟨h.2.2.2.2.1, by omega⟩ d3 | exact absurd ⟨h.2.2.2.2.2.2.1, by omega⟩ d4, rfl, rfl⟩⟩
  · have d1 := bz_n c4
    refine x_aload_n (pc := 7) dX7_mix_7 rfl ?_
    refine x_iload_n (pc := 8) dX7_mix_8 rfl ?_
    refine x_w1 (pc := 9) dX7_mix_9 wX7_isPost iX7_isPost kX7_136 (by decide) rfl (Nat.le_of_ble_eq_true rfl) (by assumption) (by omega) (m_isPost C hz hN hy) ?_
    refine x_if_eq (pc := 12) (tgt := 69) dX7_mix_12 (by decide) (bz_rg _) (fun c12 => ?_) (fun c12 => ?_)
    · have d2 := bz_e c12
      refine x_iconst (pc := 69) dX7_mix_69 ?_
      refine x_zret (pc := 70) dX7_mix_70 rfl (Or.inl rfl) ⟨_, rfl, rfl, Or.inr ⟨fun h => by first | omega | exact absurd ⟨h.2.2.2.2.1, by omega⟩ d3 | exact absurd ⟨h.2.2.2.2.2.2.1, by omega⟩ d4, rfl, rfl⟩⟩
    · have d2 := bz_n c12
      obtain ⟨l, rfl⟩ : ∃ l : Nat, x = (l : Int) := ⟨x.toNat, by omega⟩
      obtain ⟨t, rfl⟩ : ∃ t : Nat, y = (t : Int) := ⟨y.toNat, by omega⟩
      simp only [Int.toNat_natCast]
      have hS8 := hS (8 * l + t) (by omega)
      have hl : l < 8 := by omega
      refine x_iload_n (pc := 15) dX7_mix_15 rfl ?_
      refine x_iconst (pc := 16) dX7_mix_16 ?_
      refine x_aload_n (pc := 17) dX7_mix_17 rfl ?_
      refine x_iload_n (pc := 18) dX7_mix_18 rfl ?_
      refine x_iload_n (pc := 19) dX7_mix_19 rfl ?_
      refine x_w2 (pc := 20) dX7_mix_20 wX7_at iX7_at kX7_118 (by decide) rfl (Nat.le_of_ble_eq_true rfl) (by assumption) (by omega) (m_at C hz hN D hl (by omega)) ?_
      refine x_iconst (pc := 23) dX7_mix_23 ?_
      refine x_isub (pc := 24) dX7_mix_24 ?_
      refine x_t3 (pc := 25) dX7_mix_25 wX7_in sX7_in kX7_96 (by decide) rfl (Nat.le_of_ble_eq_true rfl) (m_in hu (by omega) (by omega)) ?_
      refine x_if_eq (pc := 28) (tgt := 69) dX7_mix_28 (by decide) (bz_rg _) (fun c28 => ?_) (fun c28 => ?_)
      · have d3 := bz_e c28
        refine x_iconst (pc := 69) dX7_mix_69 ?_
        refine x_zret (pc := 70) dX7_mix_70 rfl (Or.inl rfl) ⟨_, rfl, rfl, Or.inr ⟨fun h => by first | omega | exact absurd ⟨h.2.2.2.2.1, by omega⟩ d3 | exact absurd ⟨h.2.2.2.2.2.2.1, by omega⟩ d4, rfl, rfl⟩⟩
      · have d3 := bz_n c28
        refine x_iload (pc := 31) dX7_mix_31 rfl ?_
        refine x_iconst (pc := 33) dX7_mix_33 ?_
        refine x_aload_n (pc := 34) dX7_mix_34 rfl ?_
        refine x_iload_n (pc := 35) dX7_mix_35 rfl ?_
        refine x_iload_n (pc := 36) dX7_mix_36 rfl ?_
        refine x_w2 (pc := 37) dX7_mix_37 wX7_at iX7_at kX7_118 (by decide) rfl (Nat.le_of_ble_eq_true rfl) (by assumption) (by omega) (m_at C hz hN D hl (by omega)) ?_
        refine x_iconst (pc := 40) dX7_mix_40 ?_
        refine x_isub (pc := 41) dX7_mix_41 ?_
        refine x_t3 (pc := 42) dX7_mix_42 wX7_in sX7_in kX7_96 (by decide) rfl (Nat.le_of_ble_eq_true rfl) (m_in hv (by omega) (by omega)) ?_
        refine x_if_eq (pc := 45) (tgt := 69) dX7_mix_45 (by decide) (bz_rg _) (fun c45 => ?_) (fun c45 => ?_)
        · have d4 := bz_e c45
          refine x_iconst (pc := 69) dX7_mix_69 ?_
          refine x_zret (pc := 70) dX7_mix_70 rfl (Or.inl rfl) ⟨_, rfl, rfl, Or.inr ⟨fun h => by first | omega | exact absurd ⟨h.2.2.2.2.1, by omega⟩ d3 | exact absurd ⟨h.2.2.2.2.2.2.1, by omega⟩ d4, rfl, rfl⟩⟩
        · have d4 := bz_n c45
          refine x_iload_n (pc := 48) dX7_mix_48 rfl ?_
          refine x_iload (pc := 49) dX7_mix_49 rfl ?_
          refine x_icmp_eq (pc := 51) (tgt := 69) dX7_mix_51 (by decide) (by omega) (by omega) (fun c51 => ?_) (fun c51 => ?_)
          · refine x_iconst (pc := 69) dX7_mix_69 ?_
            refine x_zret (pc := 70) dX7_mix_70 rfl (Or.inl rfl) ⟨_, rfl, rfl, Or.inr ⟨fun h => by first | omega | exact absurd ⟨h.2.2.2.2.1, by omega⟩ d3 | exact absurd ⟨h.2.2.2.2.2.2.1, by omega⟩ d4, rfl, rfl⟩⟩
          · refine x_iload (pc := 54) dX7_mix_54 rfl ?_
            refine x_iconst (pc := 56) dX7_mix_56 ?_
            refine x_aload_n (pc := 57) dX7_mix_57 rfl ?_
            refine x_gf (pc := 58) dX7_mix_58 fX7_80 (by assumption) (by omega) ?_
            refine x_iconst (pc := 61) dX7_mix_61 ?_
            refine x_isub (pc := 62) dX7_mix_62 ?_
            refine x_t3 (pc := 63) dX7_mix_63 wX7_in sX7_in kX7_96 (by decide) rfl (Nat.le_of_ble_eq_true rfl) (m_in hz1 (by omega) (by omega)) ?_
            refine x_if_ne (pc := 66) (tgt := 71) dX7_mix_66 (by decide) (bz_rg _) (fun c66 => ?_) (fun c66 => ?_)
            · have d5 := bz_n c66
              refine x_iload_n (pc := 71) dX7_mix_71 rfl ?_
              refine x_iconst (pc := 72) dX7_mix_72 ?_
              refine x_isub (pc := 73) dX7_mix_73 ?_
              refine x_istore (pc := 74) dX7_mix_74 (by decide) rfl ?_
              show Ex _ _ _ _ _ _ [_, _, _, _, _, _, _, _] _ _ _ _
              obtain ⟨i, rfl⟩ : ∃ i : Nat, u = (i : Int) := ⟨u.toNat, by omega⟩
              obtain ⟨j, rfl⟩ : ∃ j : Nat, v = (j : Int) := ⟨v.toNat, by omega⟩
              simp only [Int.toNat_natCast]
              exact k_mixA (d := d) (s := szs S l) hz hN hP hl (by omega) (by omega) (by omega) (by omega) (szs_8 hS hl) (by omega) C D hT (fun h T2 C1 d1' f1 m1 => by
                obtain ⟨T1, m1, m2⟩ := m1
                exact ⟨_, rfl, rfl, Or.inl ⟨⟨by omega, by omega, by omega, by omega, by omega, by omega, by omega, by omega, by omega, by omega, by omega⟩, rfl, C1, f1, T1, T2, d1', m1, m2⟩⟩)
            · have d5 := bz_e c66
              refine x_iconst (pc := 69) dX7_mix_69 ?_
              refine x_zret (pc := 70) dX7_mix_70 rfl (Or.inl rfl) ⟨_, rfl, rfl, Or.inr ⟨fun h => by first | omega | exact absurd ⟨h.2.2.2.2.1, by omega⟩ d3 | exact absurd ⟨h.2.2.2.2.2.2.1, by omega⟩ d4, rfl, rfl⟩⟩

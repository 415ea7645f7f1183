def NwA (hp : HP) (A E : Nat → Int) : Prop := hp 96 = ar 0 8 A ∧ hp 97 = ar 0 128 E
theorem NwA.keep {hp hp' : HP} {A E : Nat → Int} (h : NwA hp A E) (e6 : hp' 96 = hp 96) (e7 : hp' 97 = hp 97) : NwA hp' A E := ⟨e6.trans h.1, e7.trans h.2⟩
theorem NwA.upA {hp : HP} {A E A' : Nat → Int} (h : NwA hp A E) : NwA (up hp 96 (ar 0 8 A')) A' E := ⟨up_s _ _ _, (up_n _ _ (by omega)).trans h.2⟩
theorem NwA.upE {hp : HP} {A E E' : Nat → Int} (h : NwA hp A E) : NwA (up hp 97 (ar 0 128 E')) A E' := ⟨(up_n _ _ (by omega)).trans h.1, up_s _ _ _⟩

theorem k_copies2 {G : GL} {d : Nat} {sz p N : Nat} (hz : 615 ≤ sz) {l : Nat} (hl : l < 8) {W : Nat → Nat} {S T : Nat → Int} {Q : Option AV → HP → Nat → Prop} {A : Nat → Int} : ∀ k, k ≤ 128 → ∀ (hp : HP) (E : Nat → Int), ModA hp p N → MdS hp W S T → NwA hp A E → (∀ h E1, ModA h p N → MdS h W S T → NwA h A E1 → Fr hp h 96 97 → (∀ x, E1 x = if k ≤ x ∧ x < 128 then T (128 * l + x) else E x) → Q none h sz) → Ex G d 0 0 mX7_copies 33 [vr 92, vi l, vi k] [] hp sz Q := by
  refine down (fun hp E C D Nw hq => ?_) (fun k hk ih hp E C D Nw hq => ?_)
  · refine x_iload_n (pc := 33) dX7_copies_33 rfl ?_
    refine x_sipush (pc := 34) dX7_copies_34 (by decide) ?_
    refine x_icmp_ge (pc := 37) (tgt := 64) dX7_copies_37 (by decide) (by omega) (by omega) (fun c37 => ?_) (fun c37 => ?_)
    · refine x_vret (pc := 64) dX7_copies_64 rfl (hq hp E C D Nw Fr.rf (fun x => by rw [if_neg (by omega)]))
    · exact absurd c37 (by omega)
  · obtain ⟨C0, C1, C2, C3, C4, C5, C6, C7, C8, C11, C12, C13, C14, C15, C16, C17, C18, C19, C20, C21, C22, C23⟩ := id C
    have hob := C0.ob
    obtain ⟨D1, D2, D3, D4⟩ := id D
    obtain ⟨N1, N2⟩ := id Nw
    refine x_iload_n (pc := 33) dX7_copies_33 rfl ?_
    refine x_sipush (pc := 34) dX7_copies_34 (by decide) ?_
    refine x_icmp_ge (pc := 37) (tgt := 64) dX7_copies_37 (by decide) (by omega) (by omega) (fun c37 => ?_) (fun c37 => ?_)
    · exact absurd c37 (by omega)
    · refine x_aload_n (pc := 40) dX7_copies_40 rfl ?_
      refine x_gf (pc := 41) dX7_copies_41 fX7_22 (by assumption) (by omega) ?_
      refine x_iload_n (pc := 44) dX7_copies_44 rfl ?_
      refine x_aload_n (pc := 45) dX7_copies_45 rfl ?_
      refine x_gf (pc := 46) dX7_copies_46 fX7_16 (by assumption) (by omega) ?_
      refine x_sipush (pc := 49) dX7_copies_49 (by decide) ?_
      refine x_iload_n (pc := 52) dX7_copies_52 rfl ?_
      refine x_imul (pc := 53) dX7_copies_53 ?_
      refine x_iload_n (pc := 54) dX7_copies_54 rfl ?_
      refine x_iadd (pc := 55) dX7_copies_55 ?_
      refine x_il (pc := 56) (j := 128 * l + k) dX7_copies_56 (by assumption) (by omega) (by omega) (by omega) ?_
      refine x_is (pc := 57) dX7_copies_57 (by assumption) (by omega) rfl (by omega) ?_
      refine x_iinc (pc := 58) dX7_copies_58 rfl (by decide) rfl ?_
      show Ex _ _ _ _ _ _ [_, _, _] _ _ _ _
      refine x_goto (pc := 61) (tgt := 33) dX7_copies_61 (by decide) ?_
      exact ih _ _ (C.keep (up_n _ _ (by omega))) (D.keep (fun x h1 h2 => up_n _ _ (by omega))) Nw.upE (fun h E1 C1 d1 n1 f1 e1 => hq h E1 C1 d1 n1 ((Fr.rf.up (by omega) (by omega)).tr f1) (fun x => by
        rw [e1 x]
        by_cases e : x = k
        · subst e
          rw [if_neg (by omega), up_s, if_pos (by omega)]
        · rw [up_n _ _ e]
          by_cases e2 : k + 1 ≤ x
          · by_cases e3 : x < 128
            · rw [if_pos (by omega), if_pos (by omega)]
            · rw [if_neg (by omega), if_neg (by omega)]
          · rw [if_neg (by omega), if_neg (by omega)]))

theorem k_copies1 {G : GL} {d : Nat} {sz p N : Nat} (hz : 615 ≤ sz) {l : Nat} (hl : l < 8) {W : Nat → Nat} {S T : Nat → Int} {Q : Option AV → HP → Nat → Prop} {E : Nat → Int} : ∀ k, k ≤ 8 → ∀ (hp : HP) (A : Nat → Int), ModA hp p N → MdS hp W S T → NwA hp A E → (∀ h A1, ModA h p N → MdS h W S T → NwA h A1 E → Fr hp h 96 97 → (∀ x, A1 x = if k ≤ x ∧ x < 8 then S (8 * l + x) else A x) → Ex G d 0 0 mX7_copies 31 [vr 92, vi l, vi (8 : Nat)] [] h sz Q) → Ex G d 0 0 mX7_copies 2 [vr 92, vi l, vi k] [] hp sz Q := by
  refine down (fun hp A C D Nw hq => ?_) (fun k hk ih hp A C D Nw hq => ?_)
  · refine x_iload_n (pc := 2) dX7_copies_2 rfl ?_
    refine x_bipush (pc := 3) dX7_copies_3 (by decide) ?_
    refine x_icmp_ge (pc := 5) (tgt := 31) dX7_copies_5 (by decide) (by omega) (by omega) (fun c5 => ?_) (fun c5 => ?_)
    · exact hq hp A C D Nw Fr.rf (fun x => by rw [if_neg (by omega)])
    · exact absurd c5 (by omega)
  · obtain ⟨C0, C1, C2, C3, C4, C5, C6, C7, C8, C11, C12, C13, C14, C15, C16, C17, C18, C19, C20, C21, C22, C23⟩ := id C
    have hob := C0.ob
    obtain ⟨D1, D2, D3, D4⟩ := id D
    obtain ⟨N1, N2⟩ := id Nw
    refine x_iload_n (pc := 2) dX7_copies_2 rfl ?_
    refine x_bipush (pc := 3) dX7_copies_3 (by decide) ?_
    refine x_icmp_ge (pc := 5) (tgt := 31) dX7_copies_5 (by decide) (by omega) (by omega) (fun c5 => ?_) (fun c5 => ?_)
    · exact absurd c5 (by omega)
    · refine x_aload_n (pc := 8) dX7_copies_8 rfl ?_
      refine x_gf (pc := 9) dX7_copies_9 fX7_19 (by assumption) (by omega) ?_
      refine x_iload_n (pc := 12) dX7_copies_12 rfl ?_
      refine x_aload_n (pc := 13) dX7_copies_13 rfl ?_
      refine x_gf (pc := 14) dX7_copies_14 fX7_13 (by assumption) (by omega) ?_
      refine x_bipush (pc := 17) dX7_copies_17 (by decide) ?_
      refine x_iload_n (pc := 19) dX7_copies_19 rfl ?_
      refine x_imul (pc := 20) dX7_copies_20 ?_
      refine x_iload_n (pc := 21) dX7_copies_21 rfl ?_
      refine x_iadd (pc := 22) dX7_copies_22 ?_
      refine x_il (pc := 23) (j := 8 * l + k) dX7_copies_23 (by assumption) (by omega) (by omega) (by omega) ?_
      refine x_is (pc := 24) dX7_copies_24 (by assumption) (by omega) rfl (by omega) ?_
      refine x_iinc (pc := 25) dX7_copies_25 rfl (by decide) rfl ?_
      show Ex _ _ _ _ _ _ [_, _, _] _ _ _ _
      refine x_goto (pc := 28) (tgt := 2) dX7_copies_28 (by decide) ?_
      exact ih _ _ (C.keep (up_n _ _ (by omega))) (D.keep (fun x h1 h2 => up_n _ _ (by omega))) Nw.upA (fun h A1 C1 d1 n1 f1 e1 => hq h A1 C1 d1 n1 ((Fr.rf.up (by omega) (by omega)).tr f1) (fun x => by
        rw [e1 x]
        by_cases e : x = k
        · subst e
          rw [if_neg (by omega), up_s, if_pos (by omega)]
        · rw [up_n _ _ e]
          by_cases e2 : k + 1 ≤ x
          · by_cases e3 : x < 8
            · rw [if_pos (by omega), if_pos (by omega)]
            · rw [if_neg (by omega), if_neg (by omega)]
          · rw [if_neg (by omega), if_neg (by omega)]))

set_option maxRecDepth 4000 in
theorem m_copies {G : GL} {d : Nat} {hp : HP} {sz : Nat} {p N : Nat} (C : ModA hp p N) (hz : 615 ≤ sz) (hN : 1 ≤ N ∧ N ≤ 8) {W : Nat → Nat} {S T : Nat → Int} (D : MdS hp W S T) {A E : Nat → Int} (Nw : NwA hp A E) {l : Nat} (hl : l < 8) : Ct G d 0 0 mX7_copies [vr 92, vi l] hp sz (Vd (fun h => ModA h p N ∧ MdS h W S T ∧ Fr hp h 96 97 ∧ ∃ A1 E1, NwA h A1 E1 ∧ (∀ x, x < 8 → A1 x = S (8 * l + x)) ∧ ∀ x, x < 128 → E1 x = T (128 * l + x)) sz) := by
  show Ex _ _ _ _ _ _ [vr 92, vi l, vu] _ _ _ _
  refine x_iconst (pc := 0) dX7_copies_0 ?_
  refine x_istore_n (pc := 1) dX7_copies_1 (by decide) rfl ?_
  show Ex _ _ _ _ _ _ [_, _, _] _ _ _ _
  refine k_copies1 hz hl 0 (by omega) hp A C D Nw (fun h A1 C1 d1 n1 f1 e1 => ?_)
  refine x_iconst (pc := 31) dX7_copies_31 ?_
  refine x_istore_n (pc := 32) dX7_copies_32 (by decide) rfl ?_
  show Ex _ _ _ _ _ _ [_, _, _] _ _ _ _
  exact k_copies2 hz hl 0 (by omega) h E C1 d1 n1 (fun h2 E1 C2 d2 n2 f2 e2 => ⟨rfl, rfl, C2, d2, f1.tr f2, A1, E1, n2, fun x hx => by rw [e1 x, if_pos ⟨by omega, hx⟩], fun x hx => by rw [e2 x, if_pos ⟨by omega, hx⟩]⟩)

theorem k_bec2 {G : GL} {d : Nat} {sz p N : Nat} (hz : 615 ≤ sz) {l : Nat} (hl : l < 8) {w : Int} {W : Nat → Nat} {A E : Nat → Int} {Q : Option AV → HP → Nat → Prop} {S : Nat → Int} : ∀ k, k ≤ 128 → ∀ (hp : HP) (T : Nat → Int), ModA hp p N → MdS hp W S T → NwA hp A E → (∀ h T1, ModA h p N → MdS h W S T1 → NwA h A E → Fr hp h 93 95 → (∀ x, T1 x = if 128 * l + k ≤ x ∧ x < 128 * l + 128 then E (x - 128 * l) else T x) → Q none h sz) → Ex G d 0 0 mX7_becomes 40 [vr 92, vi l, vi w, vi k] [] hp sz Q := by
  refine down (fun hp T C D Nw hq => ?_) (fun k hk ih hp T C D Nw hq => ?_)
  · refine x_iload_n (pc := 40) dX7_becomes_40 rfl ?_
    refine x_sipush (pc := 41) dX7_becomes_41 (by decide) ?_
    refine x_icmp_ge (pc := 44) (tgt := 71) dX7_becomes_44 (by decide) (by omega) (by omega) (fun c44 => ?_) (fun c44 => ?_)
    · refine x_vret (pc := 71) dX7_becomes_71 rfl (hq hp T C D Nw Fr.rf (fun x => by rw [if_neg (by omega)]))
    · exact absurd c44 (by omega)
  · obtain ⟨C0, C1, C2, C3, C4, C5, C6, C7, C8, C11, C12, C13, C14, C15, C16, C17, C18, C19, C20, C21, C22, C23⟩ := id C
    have hob := C0.ob
    obtain ⟨D1, D2, D3, D4⟩ := id D
    obtain ⟨N1, N2⟩ := id Nw
    refine x_iload_n (pc := 40) dX7_becomes_40 rfl ?_
    refine x_sipush (pc := 41) dX7_becomes_41 (by decide) ?_
    refine x_icmp_ge (pc := 44) (tgt := 71) dX7_becomes_44 (by decide) (by omega) (by omega) (fun c44 => ?_) (fun c44 => ?_)
    · exact absurd c44 (by omega)
    · refine x_aload_n (pc := 47) dX7_becomes_47 rfl ?_
      refine x_gf (pc := 48) dX7_becomes_48 fX7_16 (by assumption) (by omega) ?_
      refine x_sipush (pc := 51) dX7_becomes_51 (by decide) ?_
      refine x_iload_n (pc := 54) dX7_becomes_54 rfl ?_
      refine x_imul (pc := 55) dX7_becomes_55 ?_
      refine x_iload_n (pc := 56) dX7_becomes_56 rfl ?_
      refine x_iadd (pc := 57) dX7_becomes_57 ?_
      refine x_aload_n (pc := 58) dX7_becomes_58 rfl ?_
      refine x_gf (pc := 59) dX7_becomes_59 fX7_22 (by assumption) (by omega) ?_
      refine x_iload_n (pc := 62) dX7_becomes_62 rfl ?_
      refine x_il (pc := 63) dX7_becomes_63 (by assumption) (by omega) rfl (by omega) ?_
      refine x_is (pc := 64) (j := 128 * l + k) dX7_becomes_64 (by assumption) (by omega) (by omega) (by omega) ?_
      refine x_iinc (pc := 65) dX7_becomes_65 rfl (by decide) rfl ?_
      show Ex _ _ _ _ _ _ [_, _, _, _] _ _ _ _
      refine x_goto (pc := 68) (tgt := 40) dX7_becomes_68 (by decide) ?_
      exact ih _ _ (C.keep (up_n _ _ (by omega))) D.upT (Nw.keep (up_n _ _ (by omega)) (up_n _ _ (by omega))) (fun h T1 C1 d1 n1 f1 e1 => hq h T1 C1 d1 n1 ((Fr.rf.up (by omega) (by omega)).tr f1) (fun x => by
        rw [e1 x]
        by_cases e : x = 128 * l + k
        · subst e
          rw [if_neg (by omega), up_s, if_pos (by omega), show 128 * l + k - 128 * l = k by omega]
        · rw [up_n _ _ e]
          by_cases e2 : 128 * l + k + 1 ≤ x
          · by_cases e3 : x < 128 * l + 128
            · rw [if_pos (by omega), if_pos (by omega)]
            · rw [if_neg (by omega), if_neg (by omega)]
          · rw [if_neg (by omega), if_neg (by omega)]))

theorem k_bec1 {G : GL} {d : Nat} {sz p N : Nat} (hz : 615 ≤ sz) {l : Nat} (hl : l < 8) {w : Int} {W : Nat → Nat} {A E : Nat → Int} {Q : Option AV → HP → Nat → Prop} {T : Nat → Int} : ∀ k, k ≤ 8 → ∀ (hp : HP) (S : Nat → Int), ModA hp p N → MdS hp W S T → NwA hp A E → (∀ h S1, ModA h p N → MdS h W S1 T → NwA h A E → Fr hp h 93 95 → (∀ x, S1 x = if 8 * l + k ≤ x ∧ x < 8 * l + 8 then A (x - 8 * l) else S x) → Ex G d 0 0 mX7_becomes 38 [vr 92, vi l, vi w, vi (8 : Nat)] [] h sz Q) → Ex G d 0 0 mX7_becomes 9 [vr 92, vi l, vi w, vi k] [] hp sz Q := by
  refine down (fun hp S C D Nw hq => ?_) (fun k hk ih hp S C D Nw hq => ?_)
  · refine x_iload_n (pc := 9) dX7_becomes_9 rfl ?_
    refine x_bipush (pc := 10) dX7_becomes_10 (by decide) ?_
    refine x_icmp_ge (pc := 12) (tgt := 38) dX7_becomes_12 (by decide) (by omega) (by omega) (fun c12 => ?_) (fun c12 => ?_)
    · exact hq hp S C D Nw Fr.rf (fun x => by rw [if_neg (by omega)])
    · exact absurd c12 (by omega)
  · obtain ⟨C0, C1, C2, C3, C4, C5, C6, C7, C8, C11, C12, C13, C14, C15, C16, C17, C18, C19, C20, C21, C22, C23⟩ := id C
    have hob := C0.ob
    obtain ⟨D1, D2, D3, D4⟩ := id D
    obtain ⟨N1, N2⟩ := id Nw
    refine x_iload_n (pc := 9) dX7_becomes_9 rfl ?_
    refine x_bipush (pc := 10) dX7_becomes_10 (by decide) ?_
    refine x_icmp_ge (pc := 12) (tgt := 38) dX7_becomes_12 (by decide) (by omega) (by omega) (fun c12 => ?_) (fun c12 => ?_)
    · exact absurd c12 (by omega)
    · refine x_aload_n (pc := 15) dX7_becomes_15 rfl ?_
      refine x_gf (pc := 16) dX7_becomes_16 fX7_13 (by assumption) (by omega) ?_
      refine x_bipush (pc := 19) dX7_becomes_19 (by decide) ?_
      refine x_iload_n (pc := 21) dX7_becomes_21 rfl ?_
      refine x_imul (pc := 22) dX7_becomes_22 ?_
      refine x_iload_n (pc := 23) dX7_becomes_23 rfl ?_
      refine x_iadd (pc := 24) dX7_becomes_24 ?_
      refine x_aload_n (pc := 25) dX7_becomes_25 rfl ?_
      refine x_gf (pc := 26) dX7_becomes_26 fX7_19 (by assumption) (by omega) ?_
      refine x_iload_n (pc := 29) dX7_becomes_29 rfl ?_
      refine x_il (pc := 30) dX7_becomes_30 (by assumption) (by omega) rfl (by omega) ?_
      refine x_is (pc := 31) (j := 8 * l + k) dX7_becomes_31 (by assumption) (by omega) (by omega) (by omega) ?_
      refine x_iinc (pc := 32) dX7_becomes_32 rfl (by decide) rfl ?_
      show Ex _ _ _ _ _ _ [_, _, _, _] _ _ _ _
      refine x_goto (pc := 35) (tgt := 9) dX7_becomes_35 (by decide) ?_
      exact ih _ _ (C.keep (up_n _ _ (by omega))) D.upS (Nw.keep (up_n _ _ (by omega)) (up_n _ _ (by omega))) (fun h S1 C1 d1 n1 f1 e1 => hq h S1 C1 d1 n1 ((Fr.rf.up (by omega) (by omega)).tr f1) (fun x => by
        rw [e1 x]
        by_cases e : x = 8 * l + k
        · subst e
          rw [if_neg (by omega), up_s, if_pos (by omega), show 8 * l + k - 8 * l = k by omega]
        · rw [up_n _ _ e]
          by_cases e2 : 8 * l + k + 1 ≤ x
          · by_cases e3 : x < 8 * l + 8
            · rw [if_pos (by omega), if_pos (by omega)]
            · rw [if_neg (by omega), if_neg (by omega)]
          · rw [if_neg (by omega), if_neg (by omega)]))

set_option maxRecDepth 4000 in
theorem m_becomes {G : GL} {d : Nat} {hp : HP} {sz : Nat} {p N : Nat} (C : ModA hp p N) (hz : 615 ≤ sz) (hN : 1 ≤ N ∧ N ≤ 8) {W : Nat → Nat} {S T : Nat → Int} (D : MdS hp W S T) {A E : Nat → Int} (Nw : NwA hp A E) {l w : Nat} (hl : l < 8) (hw : w < 128) : Ct G d 0 0 mX7_becomes [vr 92, vi l, vi w] hp sz (Vd (fun h => ModA h p N ∧ Fr hp h 93 95 ∧ ∃ S1 T1, MdS h (up W l w) S1 T1 ∧ (∀ x, S1 x = if 8 * l ≤ x ∧ x < 8 * l + 8 then A (x - 8 * l) else S x) ∧ ∀ x, T1 x = if 128 * l ≤ x ∧ x < 128 * l + 128 then E (x - 128 * l) else T x) sz) := by
  show Ex _ _ _ _ _ _ [vr 92, vi l, vi w, vu] _ _ _ _
  obtain ⟨C0, C1, C2, C3, C4, C5, C6, C7, C8, C11, C12, C13, C14, C15, C16, C17, C18, C19, C20, C21, C22, C23⟩ := id C
  have hob := C0.ob
  obtain ⟨D1, D2, D3, D4⟩ := id D
  refine x_aload_n (pc := 0) dX7_becomes_0 rfl ?_
  refine x_gf (pc := 1) dX7_becomes_1 fX7_9 (by assumption) (by omega) ?_
  refine x_iload_n (pc := 4) dX7_becomes_4 rfl ?_
  refine x_iload_n (pc := 5) dX7_becomes_5 rfl ?_
  refine x_is (pc := 6) dX7_becomes_6 (by assumption) (by omega) rfl (by omega) ?_
  have Da := D.upW (l := l) hw
  have Ca := C.keep (hp' := up hp 93 (ar 0 8 (up (fun l => (W l : Int)) l (w : Int)))) (up_n _ _ (by omega))
  have Na := Nw.keep (hp' := up hp 93 (ar 0 8 (up (fun l => (W l : Int)) l (w : Int)))) (up_n _ _ (by omega)) (up_n _ _ (by omega))
  have Fa : Fr hp (up hp 93 (ar 0 8 (up (fun l => (W l : Int)) l (w : Int)))) 93 95 := Fr.rf.up (by omega) (by omega)
  refine x_iconst (pc := 7) dX7_becomes_7 ?_
  refine x_istore_n (pc := 8) dX7_becomes_8 (by decide) rfl ?_
  show Ex _ _ _ _ _ _ [_, _, _, _] _ _ _ _
  refine k_bec1 hz hl 0 (by omega) _ S Ca Da Na (fun h S1 C1 d1 n1 f1 e1 => ?_)
  refine x_iconst (pc := 38) dX7_becomes_38 ?_
  refine x_istore_n (pc := 39) dX7_becomes_39 (by decide) rfl ?_
  show Ex _ _ _ _ _ _ [_, _, _, _] _ _ _ _
  exact k_bec2 hz hl 0 (by omega) h T C1 d1 n1 (fun h2 T1 C2 d2 n2 f2 e2 => ⟨rfl, rfl, C2, (Fa.tr f1).tr f2, S1, T1, d2, e1, e2⟩)

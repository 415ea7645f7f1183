theorem MdS.upS {hp : HP} {W : Nat → Nat} {S T S' : Nat → Int} (h : MdS hp W S T) : MdS (up hp 94 (ar 0 64 S')) W S' T := ⟨(up_n _ _ (by omega)).trans h.1, up_s _ _ _, (up_n _ _ (by omega)).trans h.2.2.1, h.2.2.2⟩
theorem MdS.upT {hp : HP} {W : Nat → Nat} {S T T' : Nat → Int} (h : MdS hp W S T) : MdS (up hp 95 (ar 0 1024 T')) W S T' := ⟨(up_n _ _ (by omega)).trans h.1, (up_n _ _ (by omega)).trans h.2.1, up_s _ _ _, h.2.2.2⟩
theorem MdS.upW {hp : HP} {W : Nat → Nat} {S T : Nat → Int} {l w : Nat} (h : MdS hp W S T) (hw : w < 128) : MdS (up hp 93 (ar 0 8 (up (fun l => (W l : Int)) l (w : Int)))) (up W l w) S T := by
  refine ⟨(up_s _ _ _).trans (congrArg _ (funext fun b => ?_)), (up_n _ _ (by omega)).trans h.2.1, (up_n _ _ (by omega)).trans h.2.2.1, fun b hb => ?_⟩
  · by_cases e : b = l
    · rw [e, up_s, up_s]
    · rw [up_n _ _ e, up_n _ _ e]
  · by_cases e : b = l
    · rw [e, up_s]; exact hw
    · rw [up_n _ _ e]; exact h.2.2.2 b hb

theorem k_clear2 {G : GL} {d : Nat} {sz p N : Nat} (hz : 615 ≤ sz) {l : Nat} (hl : l < 8) {w : Int} {W : Nat → Nat} {Q : Option AV → HP → Nat → Prop} {S : Nat → Int} : ∀ k, k ≤ 128 → ∀ (hp : HP) (T : Nat → Int), ModA hp p N → MdS hp W S T → (∀ h T1, ModA h p N → MdS h W S T1 → Fr hp h 93 95 → (∀ x, T1 x = if 128 * l + k ≤ x ∧ x < 128 * l + 128 then 0 else T x) → Q none h sz) → Ex G d 0 0 mX7_clear 35 [vr 92, vi l, vi w, vi k] [] hp sz Q := by
  refine down (fun hp T C D hq => ?_) (fun k hk ih hp T C D hq => ?_)
  · refine x_iload_n (pc := 35) dX7_clear_35 rfl ?_
    refine x_sipush (pc := 36) dX7_clear_36 (by decide) ?_
    refine x_icmp_ge (pc := 39) (tgt := 61) dX7_clear_39 (by decide) (by omega) (by omega) (fun c39 => ?_) (fun c39 => ?_)
    · refine x_vret (pc := 61) dX7_clear_61 rfl (hq hp T C D Fr.rf (fun x => by rw [if_neg (by omega)]))
    · exact absurd c39 (by omega)
  · obtain ⟨C0, C1, C2, C3, C4, C5, C6, C7, C8, C11, C12, C13, C14, C15, C16, C17, C18, C19, C20, C21, C22, C23⟩ := id C
    have hob := C0.ob
    obtain ⟨D1, D2, D3, D4⟩ := id D
    refine x_iload_n (pc := 35) dX7_clear_35 rfl ?_
    refine x_sipush (pc := 36) dX7_clear_36 (by decide) ?_
    refine x_icmp_ge (pc := 39) (tgt := 61) dX7_clear_39 (by decide) (by omega) (by omega) (fun c39 => ?_) (fun c39 => ?_)
    · exact absurd c39 (by omega)
    · refine x_aload_n (pc := 42) dX7_clear_42 rfl ?_
      refine x_gf (pc := 43) dX7_clear_43 fX7_16 (by assumption) (by omega) ?_
      refine x_sipush (pc := 46) dX7_clear_46 (by decide) ?_
      refine x_iload_n (pc := 49) dX7_clear_49 rfl ?_
      refine x_imul (pc := 50) dX7_clear_50 ?_
      refine x_iload_n (pc := 51) dX7_clear_51 rfl ?_
      refine x_iadd (pc := 52) dX7_clear_52 ?_
      refine x_iconst (pc := 53) dX7_clear_53 ?_
      refine x_is (pc := 54) (j := 128 * l + k) dX7_clear_54 (by assumption) (by omega) (by omega) (by omega) ?_
      refine x_iinc (pc := 55) dX7_clear_55 rfl (by decide) rfl ?_
      show Ex _ _ _ _ _ _ [_, _, _, _] _ _ _ _
      refine x_goto (pc := 58) (tgt := 35) dX7_clear_58 (by decide) ?_
      exact ih _ _ (C.keep (up_n _ _ (by omega))) D.upT (fun h T1 C1 d1 f1 e1 => hq h T1 C1 d1 ((Fr.rf.up (by omega) (by omega)).tr f1) (fun x => by
        rw [e1 x]
        by_cases e : x = 128 * l + k
        · subst e
          rw [if_neg (by omega), up_s, if_pos (by omega)]
        · rw [up_n _ _ e]
          by_cases e2 : 128 * l + k + 1 ≤ x ∧ x < 128 * l + 128
          · rw [if_pos (by omega), if_pos (by omega)]
          · rw [if_neg (by omega), if_neg (by omega)]))

theorem k_clear1 {G : GL} {d : Nat} {sz p N : Nat} (hz : 615 ≤ sz) {l : Nat} (hl : l < 8) {w : Int} {W : Nat → Nat} {Q : Option AV → HP → Nat → Prop} {T : Nat → Int} : ∀ k, k ≤ 8 → ∀ (hp : HP) (S : Nat → Int), ModA hp p N → MdS hp W S T → (∀ h S1, ModA h p N → MdS h W S1 T → Fr hp h 93 95 → (∀ x, S1 x = if 8 * l + k ≤ x ∧ x < 8 * l + 8 then 0 else S x) → Ex G d 0 0 mX7_clear 33 [vr 92, vi l, vi w, vi (8 : Nat)] [] h sz Q) → Ex G d 0 0 mX7_clear 9 [vr 92, vi l, vi w, vi k] [] hp sz Q := by
  refine down (fun hp S C D hq => ?_) (fun k hk ih hp S C D hq => ?_)
  · refine x_iload_n (pc := 9) dX7_clear_9 rfl ?_
    refine x_bipush (pc := 10) dX7_clear_10 (by decide) ?_
    refine x_icmp_ge (pc := 12) (tgt := 33) dX7_clear_12 (by decide) (by omega) (by omega) (fun c12 => ?_) (fun c12 => ?_)
    · exact hq hp S C D Fr.rf (fun x => by rw [if_neg (by omega)])
    · exact absurd c12 (by omega)
  · obtain ⟨C0, C1, C2, C3, C4, C5, C6, C7, C8, C11, C12, C13, C14, C15, C16, C17, C18, C19, C20, C21, C22, C23⟩ := id C
    have hob := C0.ob
    obtain ⟨D1, D2, D3, D4⟩ := id D
    refine x_iload_n (pc := 9) dX7_clear_9 rfl ?_
    refine x_bipush (pc := 10) dX7_clear_10 (by decide) ?_
    refine x_icmp_ge (pc := 12) (tgt := 33) dX7_clear_12 (by decide) (by omega) (by omega) (fun c12 => ?_) (fun c12 => ?_)
    · exact absurd c12 (by omega)
    · refine x_aload_n (pc := 15) dX7_clear_15 rfl ?_
      refine x_gf (pc := 16) dX7_clear_16 fX7_13 (by assumption) (by omega) ?_
      refine x_bipush (pc := 19) dX7_clear_19 (by decide) ?_
      refine x_iload_n (pc := 21) dX7_clear_21 rfl ?_
      refine x_imul (pc := 22) dX7_clear_22 ?_
      refine x_iload_n (pc := 23) dX7_clear_23 rfl ?_
      refine x_iadd (pc := 24) dX7_clear_24 ?_
      refine x_iconst (pc := 25) dX7_clear_25 ?_
      refine x_is (pc := 26) (j := 8 * l + k) dX7_clear_26 (by assumption) (by omega) (by omega) (by omega) ?_
      refine x_iinc (pc := 27) dX7_clear_27 rfl (by decide) rfl ?_
      show Ex _ _ _ _ _ _ [_, _, _, _] _ _ _ _
      refine x_goto (pc := 30) (tgt := 9) dX7_clear_30 (by decide) ?_
      exact ih _ _ (C.keep (up_n _ _ (by omega))) D.upS (fun h S1 C1 d1 f1 e1 => hq h S1 C1 d1 ((Fr.rf.up (by omega) (by omega)).tr f1) (fun x => by
        rw [e1 x]
        by_cases e : x = 8 * l + k
        · subst e
          rw [if_neg (by omega), up_s, if_pos (by omega)]
        · rw [up_n _ _ e]
          by_cases e2 : 8 * l + k + 1 ≤ x ∧ x < 8 * l + 8
          · rw [if_pos (by omega), if_pos (by omega)]
          · rw [if_neg (by omega), if_neg (by omega)]))

set_option maxRecDepth 4000 in
theorem m_clear {G : GL} {d : Nat} {hp : HP} {sz : Nat} {p N : Nat} (C : ModA hp p N) (hz : 615 ≤ sz) (hN : 1 ≤ N ∧ N ≤ 8) {W : Nat → Nat} {S T : Nat → Int} (D : MdS hp W S T) {l w : Nat} (hl : l < 8) (hw : w < 128) : Ct G d 0 0 mX7_clear [vr 92, vi l, vi w] hp sz (Vd (fun h => ModA h p N ∧ Fr hp h 93 95 ∧ ∃ S1 T1, MdS h (up W l w) S1 T1 ∧ (∀ x, S1 x = if 8 * l ≤ x ∧ x < 8 * l + 8 then 0 else S x) ∧ ∀ x, T1 x = if 128 * l ≤ x ∧ x < 128 * l + 128 then 0 else T x) sz) := by
  show Ex _ _ _ _ _ _ [vr 92, vi l, vi w, vu] _ _ _ _
  obtain ⟨C0, C1, C2, C3, C4, C5, C6, C7, C8, C11, C12, C13, C14, C15, C16, C17, C18, C19, C20, C21, C22, C23⟩ := id C
  have hob := C0.ob
  obtain ⟨D1, D2, D3, D4⟩ := id D
  refine x_aload_n (pc := 0) dX7_clear_0 rfl ?_
  refine x_gf (pc := 1) dX7_clear_1 fX7_9 (by assumption) (by omega) ?_
  refine x_iload_n (pc := 4) dX7_clear_4 rfl ?_
  refine x_iload_n (pc := 5) dX7_clear_5 rfl ?_
  refine x_is (pc := 6) dX7_clear_6 (by assumption) (by omega) rfl (by omega) ?_
  have Da := D.upW (l := l) hw
  have Ca := C.keep (hp' := up hp 93 (ar 0 8 (up (fun l => (W l : Int)) l (w : Int)))) (up_n _ _ (by omega))
  have Fa : Fr hp (up hp 93 (ar 0 8 (up (fun l => (W l : Int)) l (w : Int)))) 93 95 := Fr.rf.up (by omega) (by omega)
  refine x_iconst (pc := 7) dX7_clear_7 ?_
  refine x_istore_n (pc := 8) dX7_clear_8 (by decide) rfl ?_
  show Ex _ _ _ _ _ _ [_, _, _, _] _ _ _ _
  refine k_clear1 hz hl 0 (by omega) _ S Ca Da (fun h S1 C1 d1 f1 e1 => ?_)
  refine x_iconst (pc := 33) dX7_clear_33 ?_
  refine x_istore_n (pc := 34) dX7_clear_34 (by decide) rfl ?_
  show Ex _ _ _ _ _ _ [_, _, _, _] _ _ _ _
  exact k_clear2 hz hl 0 (by omega) h T C1 d1 (fun h2 T1 C2 d2 f2 e2 => ⟨rfl, rfl, C2, (Fa.tr f1).tr f2, S1, T1, d2, e1, e2⟩)

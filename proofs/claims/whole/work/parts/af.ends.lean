/-- the ends beside a post -/
def ebP (pn : Nat → Nat) (L : Nat → Int) (br k : Nat) : Prop := (pn k = br ∧ L k = 1) ∨ (k = br ∧ L (pn k) = 1)
def ebB (pn : Nat → Nat) (L : Nat → Int) (br k : Nat) : Bool := (decide (pn k = br) && decide (L k = 1)) || (decide (k = br) && decide (L (pn k) = 1))
theorem ebB_t {pn : Nat → Nat} {L : Nat → Int} {br k : Nat} : ebB pn L br k = true ↔ ebP pn L br k := by
  unfold ebB ebP
  simp only [Bool.or_eq_true, Bool.and_eq_true, decide_eq_true_eq]
def ebF (pn : Nat → Nat) (L : Nat → Int) (br : Nat) : Nat → Nat
  | 0 => 0
  | k + 1 => if k = 0 then 0 else ebF pn L br k + (if ebB pn L br k = true then 1 else 0)
theorem ebF_t {pn : Nat → Nat} {L : Nat → Int} {br k : Nat} (h : 1 ≤ k) (e : ebP pn L br k) : ebF pn L br (k + 1) = ebF pn L br k + 1 := by rw [ebF, if_neg (by omega), if_pos (ebB_t.mpr e)]
theorem ebF_f {pn : Nat → Nat} {L : Nat → Int} {br k : Nat} (h : 1 ≤ k) (e : ¬ ebP pn L br k) : ebF pn L br (k + 1) = ebF pn L br k := by rw [ebF, if_neg (by omega), if_neg (fun q => e (ebB_t.mp q)), Nat.add_zero]
theorem ebF_le {pn : Nat → Nat} {L : Nat → Int} {br : Nat} : ∀ k, ebF pn L br k ≤ k
  | 0 => Nat.le_refl _
  | k + 1 => by
    have := ebF_le (pn := pn) (L := L) (br := br) k
    rw [ebF]
    split
    · omega
    · split <;> omega

set_option maxRecDepth 4000 in
theorem k_ends {G : GL} {d sz : Nat} {hp : HP} (hz : 92 ≤ sz) {n : Nat} (hn : 1 ≤ n ∧ n ≤ 9) {pa li ab be : Nat → Int} {pn : Nat → Nat} (hpn : ∀ j, 1 ≤ j → j < n → pa j = (pn j : Int) ∧ pn j < j) (ta : TrA hp pa li ab be n) (hL : ∀ j, j < 9 → 0 ≤ li j ∧ li j ≤ 100) {br : Nat} (hbr : br < n) : ∀ k, k ≤ n → 1 ≤ k → ∀ v4 v5 : AV, Ex G d 0 0 mX5_endsBeside 4 [vr 87, vi br, vi (ebF pn li br k : Nat), vi k, v4, v5] [] hp sz (Rd (some (vi (ebF pn li br n : Nat))) hp sz) := by
  refine down (fun h1k v4 v5 => ?_) (fun k hk ih h1k v4 v5 => ?_)
  · obtain ⟨P1, P2, P3, P4, P5, P6, P7, P8, P9⟩ := id ta
    have hob := ta.ob
    refine x_iload_n (pc := 4) dX5_endsBeside_4 rfl ?_
    refine x_aload_n (pc := 5) dX5_endsBeside_5 rfl ?_
    refine x_gf (pc := 6) dX5_endsBeside_6 fX5_24 (by assumption) (by omega) ?_
    refine x_icmp_ge (pc := 9) (tgt := 85) dX5_endsBeside_9 (by decide) (by omega) (by omega) (fun c9 => ?_) (fun c9 => ?_)
    · refine x_iload_n (pc := 85) dX5_endsBeside_85 rfl ?_
      refine x_iret (pc := 86) dX5_endsBeside_86 rfl ⟨rfl, rfl, rfl⟩
    · exact absurd c9 (by omega)
  · obtain ⟨P1, P2, P3, P4, P5, P6, P7, P8, P9⟩ := id ta
    have hob := ta.ob
    obtain ⟨hk1, hk2⟩ := hpn k h1k hk
    refine x_iload_n (pc := 4) dX5_endsBeside_4 rfl ?_
    refine x_aload_n (pc := 5) dX5_endsBeside_5 rfl ?_
    refine x_gf (pc := 6) dX5_endsBeside_6 fX5_24 (by assumption) (by omega) ?_
    refine x_icmp_ge (pc := 9) (tgt := 85) dX5_endsBeside_9 (by decide) (by omega) (by omega) (fun c9 => ?_) (fun c9 => ?_)
    · exact absurd c9 (by omega)
    · refine x_aload_n (pc := 12) dX5_endsBeside_12 rfl ?_
      refine x_gf (pc := 13) dX5_endsBeside_13 fX5_9 (by assumption) (by omega) ?_
      refine x_iload_n (pc := 16) dX5_endsBeside_16 rfl ?_
      refine x_il (pc := 17) dX5_endsBeside_17 (by assumption) (by omega) rfl (by omega) ?_
      rw [hk1]
      refine x_iload_n (pc := 18) dX5_endsBeside_18 rfl ?_
      refine x_icmp_ne (pc := 19) (tgt := 36) dX5_endsBeside_19 (by decide) (by omega) (by omega) (fun c19 => ?_) (fun c19 => ?_)
      · refine x_iconst (pc := 36) dX5_endsBeside_36 ?_
        refine x_istore (pc := 37) dX5_endsBeside_37 (by decide) rfl ?_
        show Ex _ _ _ _ _ _ [_, _, _, _, _, _] _ _ _ _
        refine x_iload_n (pc := 39) dX5_endsBeside_39 rfl ?_
        refine x_iload_n (pc := 40) dX5_endsBeside_40 rfl ?_
        refine x_icmp_ne (pc := 41) (tgt := 63) dX5_endsBeside_41 (by decide) (by omega) (by omega) (fun c41 => ?_) (fun c41 => ?_)
        · refine x_iconst (pc := 63) dX5_endsBeside_63 ?_
          refine x_istore (pc := 64) dX5_endsBeside_64 (by decide) rfl ?_
          show Ex _ _ _ _ _ _ [_, _, _, _, _, _] _ _ _ _
          refine x_iload (pc := 66) dX5_endsBeside_66 rfl ?_
          refine x_if_ne (pc := 68) (tgt := 76) dX5_endsBeside_68 (by decide) (by omega) (fun c68 => ?_) (fun c68 => ?_)
          · refine x_iinc (pc := 76) dX5_endsBeside_76 rfl (by decide) rfl ?_
            show Ex _ _ _ _ _ _ [_, _, _, _, _, _] _ _ _ _
            refine x_iinc (pc := 79) dX5_endsBeside_79 rfl (by decide) rfl ?_
            show Ex _ _ _ _ _ _ [_, _, _, _, _, _] _ _ _ _
            refine x_goto (pc := 82) (tgt := 4) dX5_endsBeside_82 (by decide) ?_
            first
              | exact absurd c68 (by decide)
              | exact absurd c73 (by decide)
              | (have ih9 := ih (by omega)
                 rw [ebF_t h1k (show ebP pn li br k from by first | exact Or.inl ⟨by omega, by omega⟩ | exact Or.inr ⟨by omega, by omega⟩)] at ih9
                 exact ih9 _ _)
              | (have ih9 := ih (by omega)
                 rw [ebF_f h1k (show ¬ ebP pn li br k from fun q => by rcases q with q | q <;> omega)] at ih9
                 exact ih9 _ _)
          · refine x_iload (pc := 71) dX5_endsBeside_71 rfl ?_
            refine x_if_eq (pc := 73) (tgt := 79) dX5_endsBeside_73 (by decide) (by omega) (fun c73 => ?_) (fun c73 => ?_)
            · refine x_iinc (pc := 79) dX5_endsBeside_79 rfl (by decide) rfl ?_
              show Ex _ _ _ _ _ _ [_, _, _, _, _, _] _ _ _ _
              refine x_goto (pc := 82) (tgt := 4) dX5_endsBeside_82 (by decide) ?_
              first
                | exact absurd c68 (by decide)
                | exact absurd c73 (by decide)
                | (have ih9 := ih (by omega)
                   rw [ebF_t h1k (show ebP pn li br k from by first | exact Or.inl ⟨by omega, by omega⟩ | exact Or.inr ⟨by omega, by omega⟩)] at ih9
                   exact ih9 _ _)
                | (have ih9 := ih (by omega)
                   rw [ebF_f h1k (show ¬ ebP pn li br k from fun q => by rcases q with q | q <;> omega)] at ih9
                   exact ih9 _ _)
            · refine x_iinc (pc := 76) dX5_endsBeside_76 rfl (by decide) rfl ?_
              show Ex _ _ _ _ _ _ [_, _, _, _, _, _] _ _ _ _
              refine x_iinc (pc := 79) dX5_endsBeside_79 rfl (by decide) rfl ?_
              show Ex _ _ _ _ _ _ [_, _, _, _, _, _] _ _ _ _
              refine x_goto (pc := 82) (tgt := 4) dX5_endsBeside_82 (by decide) ?_
              first
                | exact absurd c68 (by decide)
                | exact absurd c73 (by decide)
                | (have ih9 := ih (by omega)
                   rw [ebF_t h1k (show ebP pn li br k from by first | exact Or.inl ⟨by omega, by omega⟩ | exact Or.inr ⟨by omega, by omega⟩)] at ih9
                   exact ih9 _ _)
                | (have ih9 := ih (by omega)
                   rw [ebF_f h1k (show ¬ ebP pn li br k from fun q => by rcases q with q | q <;> omega)] at ih9
                   exact ih9 _ _)
        · refine x_aload_n (pc := 44) dX5_endsBeside_44 rfl ?_
          refine x_gf (pc := 45) dX5_endsBeside_45 fX5_15 (by assumption) (by omega) ?_
          refine x_aload_n (pc := 48) dX5_endsBeside_48 rfl ?_
          refine x_gf (pc := 49) dX5_endsBeside_49 fX5_9 (by assumption) (by omega) ?_
          refine x_iload_n (pc := 52) dX5_endsBeside_52 rfl ?_
          refine x_il (pc := 53) dX5_endsBeside_53 (by assumption) (by omega) rfl (by omega) ?_
          rw [hk1]
          refine x_il (pc := 54) dX5_endsBeside_54 (by assumption) (by omega) rfl (by omega) ?_
          refine x_iconst (pc := 55) dX5_endsBeside_55 ?_
          refine x_icmp_ne (pc := 56) (tgt := 63) dX5_endsBeside_56 (by decide) (by have := hL (pn k) (by omega); omega) (by omega) (fun c56 => ?_) (fun c56 => ?_)
          · refine x_iconst (pc := 63) dX5_endsBeside_63 ?_
            refine x_istore (pc := 64) dX5_endsBeside_64 (by decide) rfl ?_
            show Ex _ _ _ _ _ _ [_, _, _, _, _, _] _ _ _ _
            refine x_iload (pc := 66) dX5_endsBeside_66 rfl ?_
            refine x_if_ne (pc := 68) (tgt := 76) dX5_endsBeside_68 (by decide) (by omega) (fun c68 => ?_) (fun c68 => ?_)
            · refine x_iinc (pc := 76) dX5_endsBeside_76 rfl (by decide) rfl ?_
              show Ex _ _ _ _ _ _ [_, _, _, _, _, _] _ _ _ _
              refine x_iinc (pc := 79) dX5_endsBeside_79 rfl (by decide) rfl ?_
              show Ex _ _ _ _ _ _ [_, _, _, _, _, _] _ _ _ _
              refine x_goto (pc := 82) (tgt := 4) dX5_endsBeside_82 (by decide) ?_
              first
                | exact absurd c68 (by decide)
                | exact absurd c73 (by decide)
                | (have ih9 := ih (by omega)
                   rw [ebF_t h1k (show ebP pn li br k from by first | exact Or.inl ⟨by omega, by omega⟩ | exact Or.inr ⟨by omega, by omega⟩)] at ih9
                   exact ih9 _ _)
                | (have ih9 := ih (by omega)
                   rw [ebF_f h1k (show ¬ ebP pn li br k from fun q => by rcases q with q | q <;> omega)] at ih9
                   exact ih9 _ _)
            · refine x_iload (pc := 71) dX5_endsBeside_71 rfl ?_
              refine x_if_eq (pc := 73) (tgt := 79) dX5_endsBeside_73 (by decide) (by omega) (fun c73 => ?_) (fun c73 => ?_)
              · refine x_iinc (pc := 79) dX5_endsBeside_79 rfl (by decide) rfl ?_
                show Ex _ _ _ _ _ _ [_, _, _, _, _, _] _ _ _ _
                refine x_goto (pc := 82) (tgt := 4) dX5_endsBeside_82 (by decide) ?_
                first
                  | exact absurd c68 (by decide)
                  | exact absurd c73 (by decide)
                  | (have ih9 := ih (by omega)
                     rw [ebF_t h1k (show ebP pn li br k from by first | exact Or.inl ⟨by omega, by omega⟩ | exact Or.inr ⟨by omega, by omega⟩)] at ih9
                     exact ih9 _ _)
                  | (have ih9 := ih (by omega)
                     rw [ebF_f h1k (show ¬ ebP pn li br k from fun q => by rcases q with q | q <;> omega)] at ih9
                     exact ih9 _ _)
              · refine x_iinc (pc := 76) dX5_endsBeside_76 rfl (by decide) rfl ?_
                show Ex _ _ _ _ _ _ [_, _, _, _, _, _] _ _ _ _
                refine x_iinc (pc := 79) dX5_endsBeside_79 rfl (by decide) rfl ?_
                show Ex _ _ _ _ _ _ [_, _, _, _, _, _] _ _ _ _
                refine x_goto (pc := 82) (tgt := 4) dX5_endsBeside_82 (by decide) ?_
                first
                  | exact absurd c68 (by decide)
                  | exact absurd c73 (by decide)
                  | (have ih9 := ih (by omega)
                     rw [ebF_t h1k (show ebP pn li br k from by first | exact Or.inl ⟨by omega, by omega⟩ | exact Or.inr ⟨by omega, by omega⟩)] at ih9
                     exact ih9 _ _)
                  | (have ih9 := ih (by omega)
                     rw [ebF_f h1k (show ¬ ebP pn li br k from fun q => by rcases q with q | q <;> omega)] at ih9
                     exact ih9 _ _)
          · refine x_iconst (pc := 59) dX5_endsBeside_59 ?_
            refine x_goto (pc := 60) (tgt := 64) dX5_endsBeside_60 (by decide) ?_
            refine x_istore (pc := 64) dX5_endsBeside_64 (by decide) rfl ?_
            show Ex _ _ _ _ _ _ [_, _, _, _, _, _] _ _ _ _
            refine x_iload (pc := 66) dX5_endsBeside_66 rfl ?_
            refine x_if_ne (pc := 68) (tgt := 76) dX5_endsBeside_68 (by decide) (by omega) (fun c68 => ?_) (fun c68 => ?_)
            · refine x_iinc (pc := 76) dX5_endsBeside_76 rfl (by decide) rfl ?_
              show Ex _ _ _ _ _ _ [_, _, _, _, _, _] _ _ _ _
              refine x_iinc (pc := 79) dX5_endsBeside_79 rfl (by decide) rfl ?_
              show Ex _ _ _ _ _ _ [_, _, _, _, _, _] _ _ _ _
              refine x_goto (pc := 82) (tgt := 4) dX5_endsBeside_82 (by decide) ?_
              first
                | exact absurd c68 (by decide)
                | exact absurd c73 (by decide)
                | (have ih9 := ih (by omega)
                   rw [ebF_t h1k (show ebP pn li br k from by first | exact Or.inl ⟨by omega, by omega⟩ | exact Or.inr ⟨by omega, by omega⟩)] at ih9
                   exact ih9 _ _)
                | (have ih9 := ih (by omega)
                   rw [ebF_f h1k (show ¬ ebP pn li br k from fun q => by rcases q with q | q <;> omega)] at ih9
                   exact ih9 _ _)
            · refine x_iload (pc := 71) dX5_endsBeside_71 rfl ?_
              refine x_if_eq (pc := 73) (tgt := 79) dX5_endsBeside_73 (by decide) (by omega) (fun c73 => ?_) (fun c73 => ?_)
              · refine x_iinc (pc := 79) dX5_endsBeside_79 rfl (by decide) rfl ?_
                show Ex _ _ _ _ _ _ [_, _, _, _, _, _] _ _ _ _
                refine x_goto (pc := 82) (tgt := 4) dX5_endsBeside_82 (by decide) ?_
                first
                  | exact absurd c68 (by decide)
                  | exact absurd c73 (by decide)
                  | (have ih9 := ih (by omega)
                     rw [ebF_t h1k (show ebP pn li br k from by first | exact Or.inl ⟨by omega, by omega⟩ | exact Or.inr ⟨by omega, by omega⟩)] at ih9
                     exact ih9 _ _)
                  | (have ih9 := ih (by omega)
                     rw [ebF_f h1k (show ¬ ebP pn li br k from fun q => by rcases q with q | q <;> omega)] at ih9
                     exact ih9 _ _)
              · refine x_iinc (pc := 76) dX5_endsBeside_76 rfl (by decide) rfl ?_
                show Ex _ _ _ _ _ _ [_, _, _, _, _, _] _ _ _ _
                refine x_iinc (pc := 79) dX5_endsBeside_79 rfl (by decide) rfl ?_
                show Ex _ _ _ _ _ _ [_, _, _, _, _, _] _ _ _ _
                refine x_goto (pc := 82) (tgt := 4) dX5_endsBeside_82 (by decide) ?_
                first
                  | exact absurd c68 (by decide)
                  | exact absurd c73 (by decide)
                  | (have ih9 := ih (by omega)
                     rw [ebF_t h1k (show ebP pn li br k from by first | exact Or.inl ⟨by omega, by omega⟩ | exact Or.inr ⟨by omega, by omega⟩)] at ih9
                     exact ih9 _ _)
                  | (have ih9 := ih (by omega)
                     rw [ebF_f h1k (show ¬ ebP pn li br k from fun q => by rcases q with q | q <;> omega)] at ih9
                     exact ih9 _ _)
      · refine x_aload_n (pc := 22) dX5_endsBeside_22 rfl ?_
        refine x_gf (pc := 23) dX5_endsBeside_23 fX5_15 (by assumption) (by omega) ?_
        refine x_iload_n (pc := 26) dX5_endsBeside_26 rfl ?_
        refine x_il (pc := 27) dX5_endsBeside_27 (by assumption) (by omega) rfl (by omega) ?_
        refine x_iconst (pc := 28) dX5_endsBeside_28 ?_
        refine x_icmp_ne (pc := 29) (tgt := 36) dX5_endsBeside_29 (by decide) (by have := hL k (by omega); omega) (by omega) (fun c29 => ?_) (fun c29 => ?_)
        · refine x_iconst (pc := 36) dX5_endsBeside_36 ?_
          refine x_istore (pc := 37) dX5_endsBeside_37 (by decide) rfl ?_
          show Ex _ _ _ _ _ _ [_, _, _, _, _, _] _ _ _ _
          refine x_iload_n (pc := 39) dX5_endsBeside_39 rfl ?_
          refine x_iload_n (pc := 40) dX5_endsBeside_40 rfl ?_
          refine x_icmp_ne (pc := 41) (tgt := 63) dX5_endsBeside_41 (by decide) (by omega) (by omega) (fun c41 => ?_) (fun c41 => ?_)
          · refine x_iconst (pc := 63) dX5_endsBeside_63 ?_
            refine x_istore (pc := 64) dX5_endsBeside_64 (by decide) rfl ?_
            show Ex _ _ _ _ _ _ [_, _, _, _, _, _] _ _ _ _
            refine x_iload (pc := 66) dX5_endsBeside_66 rfl ?_
            refine x_if_ne (pc := 68) (tgt := 76) dX5_endsBeside_68 (by decide) (by omega) (fun c68 => ?_) (fun c68 => ?_)
            · refine x_iinc (pc := 76) dX5_endsBeside_76 rfl (by decide) rfl ?_
              show Ex _ _ _ _ _ _ [_, _, _, _, _, _] _ _ _ _
              refine x_iinc (pc := 79) dX5_endsBeside_79 rfl (by decide) rfl ?_
              show Ex _ _ _ _ _ _ [_, _, _, _, _, _] _ _ _ _
              refine x_goto (pc := 82) (tgt := 4) dX5_endsBeside_82 (by decide) ?_
              first
                | exact absurd c68 (by decide)
                | exact absurd c73 (by decide)
                | (have ih9 := ih (by omega)
                   rw [ebF_t h1k (show ebP pn li br k from by first | exact Or.inl ⟨by omega, by omega⟩ | exact Or.inr ⟨by omega, by omega⟩)] at ih9
                   exact ih9 _ _)
                | (have ih9 := ih (by omega)
                   rw [ebF_f h1k (show ¬ ebP pn li br k from fun q => by rcases q with q | q <;> omega)] at ih9
                   exact ih9 _ _)
            · refine x_iload (pc := 71) dX5_endsBeside_71 rfl ?_
              refine x_if_eq (pc := 73) (tgt := 79) dX5_endsBeside_73 (by decide) (by omega) (fun c73 => ?_) (fun c73 => ?_)
              · refine x_iinc (pc := 79) dX5_endsBeside_79 rfl (by decide) rfl ?_
                show Ex _ _ _ _ _ _ [_, _, _, _, _, _] _ _ _ _
                refine x_goto (pc := 82) (tgt := 4) dX5_endsBeside_82 (by decide) ?_
                first
                  | exact absurd c68 (by decide)
                  | exact absurd c73 (by decide)
                  | (have ih9 := ih (by omega)
                     rw [ebF_t h1k (show ebP pn li br k from by first | exact Or.inl ⟨by omega, by omega⟩ | exact Or.inr ⟨by omega, by omega⟩)] at ih9
                     exact ih9 _ _)
                  | (have ih9 := ih (by omega)
                     rw [ebF_f h1k (show ¬ ebP pn li br k from fun q => by rcases q with q | q <;> omega)] at ih9
                     exact ih9 _ _)
              · refine x_iinc (pc := 76) dX5_endsBeside_76 rfl (by decide) rfl ?_
                show Ex _ _ _ _ _ _ [_, _, _, _, _, _] _ _ _ _
                refine x_iinc (pc := 79) dX5_endsBeside_79 rfl (by decide) rfl ?_
                show Ex _ _ _ _ _ _ [_, _, _, _, _, _] _ _ _ _
                refine x_goto (pc := 82) (tgt := 4) dX5_endsBeside_82 (by decide) ?_
                first
                  | exact absurd c68 (by decide)
                  | exact absurd c73 (by decide)
                  | (have ih9 := ih (by omega)
                     rw [ebF_t h1k (show ebP pn li br k from by first | exact Or.inl ⟨by omega, by omega⟩ | exact Or.inr ⟨by omega, by omega⟩)] at ih9
                     exact ih9 _ _)
                  | (have ih9 := ih (by omega)
                     rw [ebF_f h1k (show ¬ ebP pn li br k from fun q => by rcases q with q | q <;> omega)] at ih9
                     exact ih9 _ _)
          · refine x_aload_n (pc := 44) dX5_endsBeside_44 rfl ?_
            refine x_gf (pc := 45) dX5_endsBeside_45 fX5_15 (by assumption) (by omega) ?_
            refine x_aload_n (pc := 48) dX5_endsBeside_48 rfl ?_
            refine x_gf (pc := 49) dX5_endsBeside_49 fX5_9 (by assumption) (by omega) ?_
            refine x_iload_n (pc := 52) dX5_endsBeside_52 rfl ?_
            refine x_il (pc := 53) dX5_endsBeside_53 (by assumption) (by omega) rfl (by omega) ?_
            rw [hk1]
            refine x_il (pc := 54) dX5_endsBeside_54 (by assumption) (by omega) rfl (by omega) ?_
            refine x_iconst (pc := 55) dX5_endsBeside_55 ?_
            refine x_icmp_ne (pc := 56) (tgt := 63) dX5_endsBeside_56 (by decide) (by have := hL (pn k) (by omega); omega) (by omega) (fun c56 => ?_) (fun c56 => ?_)
            · refine x_iconst (pc := 63) dX5_endsBeside_63 ?_
              refine x_istore (pc := 64) dX5_endsBeside_64 (by decide) rfl ?_
              show Ex _ _ _ _ _ _ [_, _, _, _, _, _] _ _ _ _
              refine x_iload (pc := 66) dX5_endsBeside_66 rfl ?_
              refine x_if_ne (pc := 68) (tgt := 76) dX5_endsBeside_68 (by decide) (by omega) (fun c68 => ?_) (fun c68 => ?_)
              · refine x_iinc (pc := 76) dX5_endsBeside_76 rfl (by decide) rfl ?_
                show Ex _ _ _ _ _ _ [_, _, _, _, _, _] _ _ _ _
                refine x_iinc (pc := 79) dX5_endsBeside_79 rfl (by decide) rfl ?_
                show Ex _ _ _ _ _ _ [_, _, _, _, _, _] _ _ _ _
                refine x_goto (pc := 82) (tgt := 4) dX5_endsBeside_82 (by decide) ?_
                first
                  | exact absurd c68 (by decide)
                  | exact absurd c73 (by decide)
                  | (have ih9 := ih (by omega)
                     rw [ebF_t h1k (show ebP pn li br k from by first | exact Or.inl ⟨by omega, by omega⟩ | exact Or.inr ⟨by omega, by omega⟩)] at ih9
                     exact ih9 _ _)
                  | (have ih9 := ih (by omega)
                     rw [ebF_f h1k (show ¬ ebP pn li br k from fun q => by rcases q with q | q <;> omega)] at ih9
                     exact ih9 _ _)
              · refine x_iload (pc := 71) dX5_endsBeside_71 rfl ?_
                refine x_if_eq (pc := 73) (tgt := 79) dX5_endsBeside_73 (by decide) (by omega) (fun c73 => ?_) (fun c73 => ?_)
                · refine x_iinc (pc := 79) dX5_endsBeside_79 rfl (by decide) rfl ?_
                  show Ex _ _ _ _ _ _ [_, _, _, _, _, _] _ _ _ _
                  refine x_goto (pc := 82) (tgt := 4) dX5_endsBeside_82 (by decide) ?_
                  first
                    | exact absurd c68 (by decide)
                    | exact absurd c73 (by decide)
                    | (have ih9 := ih (by omega)
                       rw [ebF_t h1k (show ebP pn li br k from by first | exact Or.inl ⟨by omega, by omega⟩ | exact Or.inr ⟨by omega, by omega⟩)] at ih9
                       exact ih9 _ _)
                    | (have ih9 := ih (by omega)
                       rw [ebF_f h1k (show ¬ ebP pn li br k from fun q => by rcases q with q | q <;> omega)] at ih9
                       exact ih9 _ _)
                · refine x_iinc (pc := 76) dX5_endsBeside_76 rfl (by decide) rfl ?_
                  show Ex _ _ _ _ _ _ [_, _, _, _, _, _] _ _ _ _
                  refine x_iinc (pc := 79) dX5_endsBeside_79 rfl (by decide) rfl ?_
                  show Ex _ _ _ _ _ _ [_, _, _, _, _, _] _ _ _ _
                  refine x_goto (pc := 82) (tgt := 4) dX5_endsBeside_82 (by decide) ?_
                  first
                    | exact absurd c68 (by decide)
                    | exact absurd c73 (by decide)
                    | (have ih9 := ih (by omega)
                       rw [ebF_t h1k (show ebP pn li br k from by first | exact Or.inl ⟨by omega, by omega⟩ | exact Or.inr ⟨by omega, by omega⟩)] at ih9
                       exact ih9 _ _)
                    | (have ih9 := ih (by omega)
                       rw [ebF_f h1k (show ¬ ebP pn li br k from fun q => by rcases q with q | q <;> omega)] at ih9
                       exact ih9 _ _)
            · refine x_iconst (pc := 59) dX5_endsBeside_59 ?_
              refine x_goto (pc := 60) (tgt := 64) dX5_endsBeside_60 (by decide) ?_
              refine x_istore (pc := 64) dX5_endsBeside_64 (by decide) rfl ?_
              show Ex _ _ _ _ _ _ [_, _, _, _, _, _] _ _ _ _
              refine x_iload (pc := 66) dX5_endsBeside_66 rfl ?_
              refine x_if_ne (pc := 68) (tgt := 76) dX5_endsBeside_68 (by decide) (by omega) (fun c68 => ?_) (fun c68 => ?_)
              · refine x_iinc (pc := 76) dX5_endsBeside_76 rfl (by decide) rfl ?_
                show Ex _ _ _ _ _ _ [_, _, _, _, _, _] _ _ _ _
                refine x_iinc (pc := 79) dX5_endsBeside_79 rfl (by decide) rfl ?_
                show Ex _ _ _ _ _ _ [_, _, _, _, _, _] _ _ _ _
                refine x_goto (pc := 82) (tgt := 4) dX5_endsBeside_82 (by decide) ?_
                first
                  | exact absurd c68 (by decide)
                  | exact absurd c73 (by decide)
                  | (have ih9 := ih (by omega)
                     rw [ebF_t h1k (show ebP pn li br k from by first | exact Or.inl ⟨by omega, by omega⟩ | exact Or.inr ⟨by omega, by omega⟩)] at ih9
                     exact ih9 _ _)
                  | (have ih9 := ih (by omega)
                     rw [ebF_f h1k (show ¬ ebP pn li br k from fun q => by rcases q with q | q <;> omega)] at ih9
                     exact ih9 _ _)
              · refine x_iload (pc := 71) dX5_endsBeside_71 rfl ?_
                refine x_if_eq (pc := 73) (tgt := 79) dX5_endsBeside_73 (by decide) (by omega) (fun c73 => ?_) (fun c73 => ?_)
                · refine x_iinc (pc := 79) dX5_endsBeside_79 rfl (by decide) rfl ?_
                  show Ex _ _ _ _ _ _ [_, _, _, _, _, _] _ _ _ _
                  refine x_goto (pc := 82) (tgt := 4) dX5_endsBeside_82 (by decide) ?_
                  first
                    | exact absurd c68 (by decide)
                    | exact absurd c73 (by decide)
                    | (have ih9 := ih (by omega)
                       rw [ebF_t h1k (show ebP pn li br k from by first | exact Or.inl ⟨by omega, by omega⟩ | exact Or.inr ⟨by omega, by omega⟩)] at ih9
                       exact ih9 _ _)
                    | (have ih9 := ih (by omega)
                       rw [ebF_f h1k (show ¬ ebP pn li br k from fun q => by rcases q with q | q <;> omega)] at ih9
                       exact ih9 _ _)
                · refine x_iinc (pc := 76) dX5_endsBeside_76 rfl (by decide) rfl ?_
                  show Ex _ _ _ _ _ _ [_, _, _, _, _, _] _ _ _ _
                  refine x_iinc (pc := 79) dX5_endsBeside_79 rfl (by decide) rfl ?_
                  show Ex _ _ _ _ _ _ [_, _, _, _, _, _] _ _ _ _
                  refine x_goto (pc := 82) (tgt := 4) dX5_endsBeside_82 (by decide) ?_
                  first
                    | exact absurd c68 (by decide)
                    | exact absurd c73 (by decide)
                    | (have ih9 := ih (by omega)
                       rw [ebF_t h1k (show ebP pn li br k from by first | exact Or.inl ⟨by omega, by omega⟩ | exact Or.inr ⟨by omega, by omega⟩)] at ih9
                       exact ih9 _ _)
                    | (have ih9 := ih (by omega)
                       rw [ebF_f h1k (show ¬ ebP pn li br k from fun q => by rcases q with q | q <;> omega)] at ih9
                       exact ih9 _ _)
        · refine x_iconst (pc := 32) dX5_endsBeside_32 ?_
          refine x_goto (pc := 33) (tgt := 37) dX5_endsBeside_33 (by decide) ?_
          refine x_istore (pc := 37) dX5_endsBeside_37 (by decide) rfl ?_
          show Ex _ _ _ _ _ _ [_, _, _, _, _, _] _ _ _ _
          refine x_iload_n (pc := 39) dX5_endsBeside_39 rfl ?_
          refine x_iload_n (pc := 40) dX5_endsBeside_40 rfl ?_
          refine x_icmp_ne (pc := 41) (tgt := 63) dX5_endsBeside_41 (by decide) (by omega) (by omega) (fun c41 => ?_) (fun c41 => ?_)
          · refine x_iconst (pc := 63) dX5_endsBeside_63 ?_
            refine x_istore (pc := 64) dX5_endsBeside_64 (by decide) rfl ?_
            show Ex _ _ _ _ _ _ [_, _, _, _, _, _] _ _ _ _
            refine x_iload (pc := 66) dX5_endsBeside_66 rfl ?_
            refine x_if_ne (pc := 68) (tgt := 76) dX5_endsBeside_68 (by decide) (by omega) (fun c68 => ?_) (fun c68 => ?_)
            · refine x_iinc (pc := 76) dX5_endsBeside_76 rfl (by decide) rfl ?_
              show Ex _ _ _ _ _ _ [_, _, _, _, _, _] _ _ _ _
              refine x_iinc (pc := 79) dX5_endsBeside_79 rfl (by decide) rfl ?_
              show Ex _ _ _ _ _ _ [_, _, _, _, _, _] _ _ _ _
              refine x_goto (pc := 82) (tgt := 4) dX5_endsBeside_82 (by decide) ?_
              first
                | exact absurd c68 (by decide)
                | exact absurd c73 (by decide)
                | (have ih9 := ih (by omega)
                   rw [ebF_t h1k (show ebP pn li br k from by first | exact Or.inl ⟨by omega, by omega⟩ | exact Or.inr ⟨by omega, by omega⟩)] at ih9
                   exact ih9 _ _)
                | (have ih9 := ih (by omega)
                   rw [ebF_f h1k (show ¬ ebP pn li br k from fun q => by rcases q with q | q <;> omega)] at ih9
                   exact ih9 _ _)
            · refine x_iload (pc := 71) dX5_endsBeside_71 rfl ?_
              refine x_if_eq (pc := 73) (tgt := 79) dX5_endsBeside_73 (by decide) (by omega) (fun c73 => ?_) (fun c73 => ?_)
              · refine x_iinc (pc := 79) dX5_endsBeside_79 rfl (by decide) rfl ?_
                show Ex _ _ _ _ _ _ [_, _, _, _, _, _] _ _ _ _
                refine x_goto (pc := 82) (tgt := 4) dX5_endsBeside_82 (by decide) ?_
                first
                  | exact absurd c68 (by decide)
                  | exact absurd c73 (by decide)
                  | (have ih9 := ih (by omega)
                     rw [ebF_t h1k (show ebP pn li br k from by first | exact Or.inl ⟨by omega, by omega⟩ | exact Or.inr ⟨by omega, by omega⟩)] at ih9
                     exact ih9 _ _)
                  | (have ih9 := ih (by omega)
                     rw [ebF_f h1k (show ¬ ebP pn li br k from fun q => by rcases q with q | q <;> omega)] at ih9
                     exact ih9 _ _)
              · refine x_iinc (pc := 76) dX5_endsBeside_76 rfl (by decide) rfl ?_
                show Ex _ _ _ _ _ _ [_, _, _, _, _, _] _ _ _ _
                refine x_iinc (pc := 79) dX5_endsBeside_79 rfl (by decide) rfl ?_
                show Ex _ _ _ _ _ _ [_, _, _, _, _, _] _ _ _ _
                refine x_goto (pc := 82) (tgt := 4) dX5_endsBeside_82 (by decide) ?_
                first
                  | exact absurd c68 (by decide)
                  | exact absurd c73 (by decide)
                  | (have ih9 := ih (by omega)
                     rw [ebF_t h1k (show ebP pn li br k from by first | exact Or.inl ⟨by omega, by omega⟩ | exact Or.inr ⟨by omega, by omega⟩)] at ih9
                     exact ih9 _ _)
                  | (have ih9 := ih (by omega)
                     rw [ebF_f h1k (show ¬ ebP pn li br k from fun q => by rcases q with q | q <;> omega)] at ih9
                     exact ih9 _ _)
          · refine x_aload_n (pc := 44) dX5_endsBeside_44 rfl ?_
            refine x_gf (pc := 45) dX5_endsBeside_45 fX5_15 (by assumption) (by omega) ?_
            refine x_aload_n (pc := 48) dX5_endsBeside_48 rfl ?_
            refine x_gf (pc := 49) dX5_endsBeside_49 fX5_9 (by assumption) (by omega) ?_
            refine x_iload_n (pc := 52) dX5_endsBeside_52 rfl ?_
            refine x_il (pc := 53) dX5_endsBeside_53 (by assumption) (by omega) rfl (by omega) ?_
            rw [hk1]
            refine x_il (pc := 54) dX5_endsBeside_54 (by assumption) (by omega) rfl (by omega) ?_
            refine x_iconst (pc := 55) dX5_endsBeside_55 ?_
            refine x_icmp_ne (pc := 56) (tgt := 63) dX5_endsBeside_56 (by decide) (by have := hL (pn k) (by omega); omega) (by omega) (fun c56 => ?_) (fun c56 => ?_)
            · refine x_iconst (pc := 63) dX5_endsBeside_63 ?_
              refine x_istore (pc := 64) dX5_endsBeside_64 (by decide) rfl ?_
              show Ex _ _ _ _ _ _ [_, _, _, _, _, _] _ _ _ _
              refine x_iload (pc := 66) dX5_endsBeside_66 rfl ?_
              refine x_if_ne (pc := 68) (tgt := 76) dX5_endsBeside_68 (by decide) (by omega) (fun c68 => ?_) (fun c68 => ?_)
              · refine x_iinc (pc := 76) dX5_endsBeside_76 rfl (by decide) rfl ?_
                show Ex _ _ _ _ _ _ [_, _, _, _, _, _] _ _ _ _
                refine x_iinc (pc := 79) dX5_endsBeside_79 rfl (by decide) rfl ?_
                show Ex _ _ _ _ _ _ [_, _, _, _, _, _] _ _ _ _
                refine x_goto (pc := 82) (tgt := 4) dX5_endsBeside_82 (by decide) ?_
                first
                  | exact absurd c68 (by decide)
                  | exact absurd c73 (by decide)
                  | (have ih9 := ih (by omega)
                     rw [ebF_t h1k (show ebP pn li br k from by first | exact Or.inl ⟨by omega, by omega⟩ | exact Or.inr ⟨by omega, by omega⟩)] at ih9
                     exact ih9 _ _)
                  | (have ih9 := ih (by omega)
                     rw [ebF_f h1k (show ¬ ebP pn li br k from fun q => by rcases q with q | q <;> omega)] at ih9
                     exact ih9 _ _)
              · refine x_iload (pc := 71) dX5_endsBeside_71 rfl ?_
                refine x_if_eq (pc := 73) (tgt := 79) dX5_endsBeside_73 (by decide) (by omega) (fun c73 => ?_) (fun c73 => ?_)
                · refine x_iinc (pc := 79) dX5_endsBeside_79 rfl (by decide) rfl ?_
                  show Ex _ _ _ _ _ _ [_, _, _, _, _, _] _ _ _ _
                  refine x_goto (pc := 82) (tgt := 4) dX5_endsBeside_82 (by decide) ?_
                  first
                    | exact absurd c68 (by decide)
                    | exact absurd c73 (by decide)
                    | (have ih9 := ih (by omega)
                       rw [ebF_t h1k (show ebP pn li br k from by first | exact Or.inl ⟨by omega, by omega⟩ | exact Or.inr ⟨by omega, by omega⟩)] at ih9
                       exact ih9 _ _)
                    | (have ih9 := ih (by omega)
                       rw [ebF_f h1k (show ¬ ebP pn li br k from fun q => by rcases q with q | q <;> omega)] at ih9
                       exact ih9 _ _)
                · refine x_iinc (pc := 76) dX5_endsBeside_76 rfl (by decide) rfl ?_
                  show Ex _ _ _ _ _ _ [_, _, _, _, _, _] _ _ _ _
                  refine x_iinc (pc := 79) dX5_endsBeside_79 rfl (by decide) rfl ?_
                  show Ex _ _ _ _ _ _ [_, _, _, _, _, _] _ _ _ _
                  refine x_goto (pc := 82) (tgt := 4) dX5_endsBeside_82 (by decide) ?_
                  first
                    | exact absurd c68 (by decide)
                    | exact absurd c73 (by decide)
                    | (have ih9 := ih (by omega)
                       rw [ebF_t h1k (show ebP pn li br k from by first | exact Or.inl ⟨by omega, by omega⟩ | exact Or.inr ⟨by omega, by omega⟩)] at ih9
                       exact ih9 _ _)
                    | (have ih9 := ih (by omega)
                       rw [ebF_f h1k (show ¬ ebP pn li br k from fun q => by rcases q with q | q <;> omega)] at ih9
                       exact ih9 _ _)
            · refine x_iconst (pc := 59) dX5_endsBeside_59 ?_
              refine x_goto (pc := 60) (tgt := 64) dX5_endsBeside_60 (by decide) ?_
              refine x_istore (pc := 64) dX5_endsBeside_64 (by decide) rfl ?_
              show Ex _ _ _ _ _ _ [_, _, _, _, _, _] _ _ _ _
              refine x_iload (pc := 66) dX5_endsBeside_66 rfl ?_
              refine x_if_ne (pc := 68) (tgt := 76) dX5_endsBeside_68 (by decide) (by omega) (fun c68 => ?_) (fun c68 => ?_)
              · refine x_iinc (pc := 76) dX5_endsBeside_76 rfl (by decide) rfl ?_
                show Ex _ _ _ _ _ _ [_, _, _, _, _, _] _ _ _ _
                refine x_iinc (pc := 79) dX5_endsBeside_79 rfl (by decide) rfl ?_
                show Ex _ _ _ _ _ _ [_, _, _, _, _, _] _ _ _ _
                refine x_goto (pc := 82) (tgt := 4) dX5_endsBeside_82 (by decide) ?_
                first
                  | exact absurd c68 (by decide)
                  | exact absurd c73 (by decide)
                  | (have ih9 := ih (by omega)
                     rw [ebF_t h1k (show ebP pn li br k from by first | exact Or.inl ⟨by omega, by omega⟩ | exact Or.inr ⟨by omega, by omega⟩)] at ih9
                     exact ih9 _ _)
                  | (have ih9 := ih (by omega)
                     rw [ebF_f h1k (show ¬ ebP pn li br k from fun q => by rcases q with q | q <;> omega)] at ih9
                     exact ih9 _ _)
              · refine x_iload (pc := 71) dX5_endsBeside_71 rfl ?_
                refine x_if_eq (pc := 73) (tgt := 79) dX5_endsBeside_73 (by decide) (by omega) (fun c73 => ?_) (fun c73 => ?_)
                · refine x_iinc (pc := 79) dX5_endsBeside_79 rfl (by decide) rfl ?_
                  show Ex _ _ _ _ _ _ [_, _, _, _, _, _] _ _ _ _
                  refine x_goto (pc := 82) (tgt := 4) dX5_endsBeside_82 (by decide) ?_
                  first
                    | exact absurd c68 (by decide)
                    | exact absurd c73 (by decide)
                    | (have ih9 := ih (by omega)
                       rw [ebF_t h1k (show ebP pn li br k from by first | exact Or.inl ⟨by omega, by omega⟩ | exact Or.inr ⟨by omega, by omega⟩)] at ih9
                       exact ih9 _ _)
                    | (have ih9 := ih (by omega)
                       rw [ebF_f h1k (show ¬ ebP pn li br k from fun q => by rcases q with q | q <;> omega)] at ih9
                       exact ih9 _ _)
                · refine x_iinc (pc := 76) dX5_endsBeside_76 rfl (by decide) rfl ?_
                  show Ex _ _ _ _ _ _ [_, _, _, _, _, _] _ _ _ _
                  refine x_iinc (pc := 79) dX5_endsBeside_79 rfl (by decide) rfl ?_
                  show Ex _ _ _ _ _ _ [_, _, _, _, _, _] _ _ _ _
                  refine x_goto (pc := 82) (tgt := 4) dX5_endsBeside_82 (by decide) ?_
                  first
                    | exact absurd c68 (by decide)
                    | exact absurd c73 (by decide)
                    | (have ih9 := ih (by omega)
                       rw [ebF_t h1k (show ebP pn li br k from by first | exact Or.inl ⟨by omega, by omega⟩ | exact Or.inr ⟨by omega, by omega⟩)] at ih9
                       exact ih9 _ _)
                    | (have ih9 := ih (by omega)
                       rw [ebF_f h1k (show ¬ ebP pn li br k from fun q => by rcases q with q | q <;> omega)] at ih9
                       exact ih9 _ _)

set_option maxRecDepth 4000 in
theorem t_endsBeside {G : GL} {d : Nat} {hp : HP} {sz : Nat} (hz : 92 ≤ sz) {n : Nat} (hn : 1 ≤ n ∧ n ≤ 9) {pa li ab be : Nat → Int} {pn : Nat → Nat} (hpn : ∀ j, 1 ≤ j → j < n → pa j = (pn j : Int) ∧ pn j < j) (ta : TrA hp pa li ab be n) (hL : ∀ j, j < 9 → 0 ≤ li j ∧ li j ≤ 100) {br : Nat} (hbr : br < n) : Ct G d 0 0 mX5_endsBeside [vr 87, vi br] hp sz (Rd (some (vi (ebF pn li br n : Nat))) hp sz) := by
  show Ex _ _ _ _ _ _ [vr 87, vi br, vu, vu, vu, vu] _ _ _ _
  refine x_iconst (pc := 0) dX5_endsBeside_0 ?_
  refine x_istore_n (pc := 1) dX5_endsBeside_1 (by decide) rfl ?_
  show Ex _ _ _ _ _ _ [_, _, _, _, _, _] _ _ _ _
  refine x_iconst (pc := 2) dX5_endsBeside_2 ?_
  refine x_istore_n (pc := 3) dX5_endsBeside_3 (by decide) rfl ?_
  show Ex _ _ _ _ _ _ [_, _, _, _, _, _] _ _ _ _
  exact k_ends hz hn hpn ta hL hbr 1 (by omega) (Nat.le_refl _) _ _

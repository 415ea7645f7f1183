/-! turn, in the class -/
def Tn (N w t : Nat) : Prop := N ≠ 1 ∧ (t = 0 ∨ ¬ t + 1 < N ∨ w.testBit (t - 1) ≠ w.testBit t)
def nb (b : Bool) (n : Nat → Int) (k r c : Nat) : Int := if b = true then n (k * 16 + r * 4 + c) else n (k * 16 + c * 4 + r)
def lx (s : Nat → Nat) (t : Nat) : Nat := if 0 < t then s (t - 1) else 0
def ry (N : Nat) (s : Nat → Nat) (t : Nat) : Nat := if t + 1 < N then s (t + 1) else 0
def gat (b : Bool) (n : Nat → Int) (t x : Nat) (r j : Nat) : Int := if j < x then nb b n (t - 1) r j else nb b n t r (j - x)

set_option maxRecDepth 4000 in
theorem t_isTurning {G : GL} {d : Nat} {hp : HP} {sz : Nat} {p N : Nat} (C : ClsA hp p N) (hz : 92 ≤ sz) (hN : 1 ≤ N ∧ N ≤ 8){q : Nat} {s' n : Nat → Int} {w : Nat} (L : Lay hp q s' n w) (hq : q + 2 < sz) (hw : w < 128) {t : Nat} (ht : t < N) : Ct G (d + 2) 0 0 mX6_isTurning [vr 0, vr q, vi t] hp sz (Vs (fun v h => h = hp ∧ ∃ r : Bool, v = vi (bz r) ∧ (r = true ↔ Tn N w t)) sz) := by
  show Ex _ _ _ _ _ _ [vr 0, vr q, vi t] _ _ _ _
  obtain ⟨C0, C1, C2, C3, C4, C5, C6, C7, C8, C9, g, gA, gB⟩ := id C
  have hob := C0.ob
  have hoL := L.ob
  refine x_aload_n (pc := 0) dX6_isTurning_0 rfl ?_
  refine x_gf (pc := 1) dX6_isTurning_1 fX6_26 (by assumption) (by omega) ?_
  refine x_iconst (pc := 4) dX6_isTurning_4 ?_
  refine x_icmp_ne (pc := 5) (tgt := 10) dX6_isTurning_5 (by decide) (by omega) (by omega) (fun c5 => ?_) (fun c5 => ?_)
  · refine x_aload_n (pc := 10) dX6_isTurning_10 rfl ?_
    refine x_iload_n (pc := 11) dX6_isTurning_11 rfl ?_
    refine x_iconst (pc := 12) dX6_isTurning_12 ?_
    refine x_isub (pc := 13) dX6_isTurning_13 ?_
    refine x_w1 (pc := 14) dX6_isTurning_14 wX6_isArrow iX6_isArrow kX6_151 (by decide) rfl (Nat.le_of_ble_eq_true rfl) (by assumption) (by omega) (t_isArrow C hz hN (by omega)) ?_
    refine x_if_eq (pc := 17) (tgt := 28) dX6_isTurning_17 (by decide) (bz_rg _) (fun c17 => ?_) (fun c17 => ?_)
    · have d1 := bz_e c17
      refine x_iconst (pc := 28) dX6_isTurning_28 ?_
      refine x_zret (pc := 29) dX6_isTurning_29 rfl (Or.inr rfl) ⟨_, rfl, rfl, rfl, true, rfl, ⟨fun _ => ⟨by omega, by omega⟩, fun _ => rfl⟩⟩
    · have d1 := bz_n c17
      refine x_aload_n (pc := 20) dX6_isTurning_20 rfl ?_
      refine x_iload_n (pc := 21) dX6_isTurning_21 rfl ?_
      refine x_w1 (pc := 22) dX6_isTurning_22 wX6_isArrow iX6_isArrow kX6_151 (by decide) rfl (Nat.le_of_ble_eq_true rfl) (by assumption) (by omega) (t_isArrow C hz hN (by omega)) ?_
      refine x_if_ne (pc := 25) (tgt := 30) dX6_isTurning_25 (by decide) (bz_rg _) (fun c25 => ?_) (fun c25 => ?_)
      · have d2 := bz_n c25
        refine x_aload_n (pc := 30) dX6_isTurning_30 rfl ?_
        refine x_iload_n (pc := 31) dX6_isTurning_31 rfl ?_
        refine x_iconst (pc := 32) dX6_isTurning_32 ?_
        refine x_isub (pc := 33) dX6_isTurning_33 ?_
        rw [show (t : Int) - 1 = ((t - 1 : Nat) : Int) by omega]
        refine x_w1 (pc := 34) dX6_isTurning_34 wX0_isLeft iX0_isLeft kX6_228 (by decide) rfl (Nat.le_of_ble_eq_true rfl) hoL (by omega) (t_isLeft L hq (by omega) hw) ?_
        refine x_aload_n (pc := 37) dX6_isTurning_37 rfl ?_
        refine x_iload_n (pc := 38) dX6_isTurning_38 rfl ?_
        refine x_w1 (pc := 39) dX6_isTurning_39 wX0_isLeft iX0_isLeft kX6_228 (by decide) rfl (Nat.le_of_ble_eq_true rfl) hoL (by omega) (t_isLeft L hq (by omega) hw) ?_
        refine x_icmp_eq (pc := 42) (tgt := 49) dX6_isTurning_42 (by decide) (bz_rg _) (bz_rg _) (fun c42 => ?_) (fun c42 => ?_)
        · have h9 : w.testBit (t - 1) = w.testBit t := by cases h1 : w.testBit (t - 1) <;> cases h2 : w.testBit t <;> simp_all [bz]
          refine x_iconst (pc := 49) dX6_isTurning_49 ?_
          refine x_zret (pc := 50) dX6_isTurning_50 rfl (by omega) (by first | exact ⟨_, rfl, rfl, rfl, true, rfl, ⟨fun _ => ⟨by omega, Or.inr (Or.inr h9)⟩, fun _ => rfl⟩⟩ | exact ⟨_, rfl, rfl, rfl, false, rfl, ⟨fun h => absurd h (by decide), fun h => by rcases h.2 with z | z | z; omega; omega; exact absurd h9 z⟩⟩)
        · have h9 : w.testBit (t - 1) ≠ w.testBit t := by cases h1 : w.testBit (t - 1) <;> cases h2 : w.testBit t <;> simp_all [bz]
          refine x_iconst (pc := 45) dX6_isTurning_45 ?_
          refine x_goto (pc := 46) (tgt := 50) dX6_isTurning_46 (by decide) ?_
          refine x_zret (pc := 50) dX6_isTurning_50 rfl (by omega) (by first | exact ⟨_, rfl, rfl, rfl, true, rfl, ⟨fun _ => ⟨by omega, Or.inr (Or.inr h9)⟩, fun _ => rfl⟩⟩ | exact ⟨_, rfl, rfl, rfl, false, rfl, ⟨fun h => absurd h (by decide), fun h => by rcases h.2 with z | z | z; omega; omega; exact absurd h9 z⟩⟩)
      · have d2 := bz_e c25
        refine x_iconst (pc := 28) dX6_isTurning_28 ?_
        refine x_zret (pc := 29) dX6_isTurning_29 rfl (Or.inr rfl) ⟨_, rfl, rfl, rfl, true, rfl, ⟨fun _ => ⟨by omega, by omega⟩, fun _ => rfl⟩⟩
  · refine x_iconst (pc := 8) dX6_isTurning_8 ?_
    refine x_zret (pc := 9) dX6_isTurning_9 rfl (Or.inl rfl) ⟨_, rfl, rfl, rfl, false, rfl, ⟨fun h => absurd h (by decide), fun h => absurd (by omega) h.1⟩⟩

theorem k_gat1 {G : GL} {d : Nat} {sz p N : Nat} (hz : 92 ≤ sz) (hN : 1 ≤ N ∧ N ≤ 8) {q t x u m w cw : Nat} {b : Bool} (hq : 2 ≤ q ∧ q + 2 < 29) (ht : t < N) {s' n : Nat → Int} (es : s' t = (m : Int)) (hm : m ≤ 4) (hx : x ≤ 4) (hu : u ≤ 4) (hx0 : 0 < x → 0 < t) (hu0 : 0 < u → t + 1 < N) {hd : Nat → Int} {Q : Option AV → HP → Nat → Prop} {r : Nat} (hr : r < m) : ∀ j, j ≤ x → ∀ (hp : HP) (M : Nat → Nat → Int), ClsA hp p N → Lay hp q s' n cw → RowsA hp 29 p M hd m w → (∀ h M1, ClsA h p N → Lay h q s' n cw → RowsA h 29 p M1 hd m w → Fr hp h 29 35 → (∀ z, z ≠ r → M1 z = M z) → (∀ c, M1 r c = if j ≤ c ∧ c < x then nb b n (t - 1) r c else M r c) → Ex G (d + 3) 0 0 mX6_gatherBeside 117 [vr 0, vr q, vi t, vi (bz b), vi x, vi u, vi r, vi x] [] h sz Q) → Ex G (d + 3) 0 0 mX6_gatherBeside 81 [vr 0, vr q, vi t, vi (bz b), vi x, vi u, vi r, vi j] [] hp sz Q := by
  refine down (fun hp M C L RR hq9 => ?_) (fun j hj ih hp M C L RR hq9 => ?_)
  · obtain ⟨C0, C1, C2, C3, C4, C5, C6, C7, C8, C9, g, gA, gB⟩ := id C
    have hob := C0.ob
    have hoL := L.ob
    have hoR := RR.ob
    obtain ⟨L1, L2, L3, L4, L5⟩ := id L
    refine x_iload (pc := 81) dX6_gatherBeside_81 rfl ?_
    refine x_iload (pc := 83) dX6_gatherBeside_83 rfl ?_
    refine x_icmp_ge (pc := 85) (tgt := 117) dX6_gatherBeside_85 (by decide) (by omega) (by omega) (fun c85 => ?_) (fun c85 => ?_)
    · exact hq9 hp M C L RR Fr.rf (fun z _ => rfl) (fun c => by rw [if_neg (by omega)])
    · exact absurd c85 (by omega)
  · obtain ⟨C0, C1, C2, C3, C4, C5, C6, C7, C8, C9, g, gA, gB⟩ := id C
    have hob := C0.ob
    have hoL := L.ob
    have hoR := RR.ob
    obtain ⟨L1, L2, L3, L4, L5⟩ := id L
    refine x_iload (pc := 81) dX6_gatherBeside_81 rfl ?_
    refine x_iload (pc := 83) dX6_gatherBeside_83 rfl ?_
    refine x_icmp_ge (pc := 85) (tgt := 117) dX6_gatherBeside_85 (by decide) (by omega) (by omega) (fun c85 => ?_) (fun c85 => ?_)
    · exact absurd c85 (by omega)
    · refine x_aload_n (pc := 88) dX6_gatherBeside_88 rfl ?_
      refine x_gf (pc := 89) dX6_gatherBeside_89 fX6_45 (by assumption) (by omega) ?_
      refine x_iload (pc := 92) dX6_gatherBeside_92 rfl ?_
      refine x_iload (pc := 94) dX6_gatherBeside_94 rfl ?_
      refine x_aload_n (pc := 96) dX6_gatherBeside_96 rfl ?_
      refine x_iload_n (pc := 97) dX6_gatherBeside_97 rfl ?_
      refine x_iconst (pc := 98) dX6_gatherBeside_98 ?_
      refine x_isub (pc := 99) dX6_gatherBeside_99 ?_
      rw [show (t : Int) - 1 = ((t - 1 : Nat) : Int) by omega]
      refine x_iload_n (pc := 100) dX6_gatherBeside_100 rfl ?_
      refine x_iload (pc := 101) dX6_gatherBeside_101 rfl ?_
      refine x_iload (pc := 103) dX6_gatherBeside_103 rfl ?_
      refine x_w4 (pc := 105) dX6_gatherBeside_105 wX0_numberBeside iX0_numberBeside kX6_234 (by decide) rfl (Nat.le_of_ble_eq_true rfl) hoL (by omega) (t_numberBeside L (by omega) (k := (t - 1)) (r := r) (c := j) b (by omega) (by omega) (by omega)) ?_
      refine x_p3 (pc := 108) dX6_gatherBeside_108 wX3_put iX3_put kX6_238 (by decide) rfl (Nat.le_of_ble_eq_true rfl) hoR (by omega) (t_Rput RR (by omega) (i := r) (j := j) (by omega) (by omega)) (fun h108 e108 => ?_)
      obtain ⟨f9, R9⟩ := e108
      refine x_iinc (pc := 111) dX6_gatherBeside_111 rfl (by decide) rfl ?_
      show Ex _ _ _ _ _ _ [_, _, _, _, _, _, _, _] _ _ _ _
      refine x_goto (pc := 114) (tgt := 81) dX6_gatherBeside_114 (by decide) ?_
      exact ih _ _ (C.keep (f9 0 (by omega)) (f9 1 (by omega))) (L.keep (fun x h1 h2 => f9 x (by omega))) R9 (fun h M1 C1 l1 r1 f1 e0 e1 => hq9 h M1 C1 l1 r1 (f9.tr f1) (fun z hz9 => (e0 z hz9).trans (up_n _ _ hz9)) (fun c => by
        rw [e1 c, up_s]
        by_cases e : c = j
        · subst e
          rw [if_neg (by omega), up_s]
          refine Eq.trans ?_ (if_pos (by omega)).symm
          unfold nb
          rfl
        · rw [up_n _ _ e]
          by_cases e2 : j + 1 ≤ c ∧ c < x
          · rw [if_pos (by omega), if_pos (by omega)]
          · rw [if_neg (by omega), if_neg (by omega)]))

theorem k_gat2 {G : GL} {d : Nat} {sz p N : Nat} (hz : 92 ≤ sz) (hN : 1 ≤ N ∧ N ≤ 8) {q t x u m w cw : Nat} {b : Bool} (hq : 2 ≤ q ∧ q + 2 < 29) (ht : t < N) {s' n : Nat → Int} (es : s' t = (m : Int)) (hm : m ≤ 4) (hx : x ≤ 4) (hu : u ≤ 4) (hx0 : 0 < x → 0 < t) (hu0 : 0 < u → t + 1 < N) {hd : Nat → Int} {Q : Option AV → HP → Nat → Prop} {r : Nat} (hr : r < m) : ∀ j, j ≤ u → ∀ (hp : HP) (M : Nat → Nat → Int), ClsA hp p N → Lay hp q s' n cw → RowsA hp 29 p M hd m w → (∀ h M1, ClsA h p N → Lay h q s' n cw → RowsA h 29 p M1 hd m w → Fr hp h 29 35 → (∀ z, z ≠ r → M1 z = M z) → (∀ c, M1 r c = if x + j ≤ c ∧ c < x + u then nb b n t r (c - x) else M r c) → Ex G (d + 3) 0 0 mX6_gatherBeside 157 [vr 0, vr q, vi t, vi (bz b), vi x, vi u, vi r, vi u] [] h sz Q) → Ex G (d + 3) 0 0 mX6_gatherBeside 120 [vr 0, vr q, vi t, vi (bz b), vi x, vi u, vi r, vi j] [] hp sz Q := by
  refine down (fun hp M C L RR hq9 => ?_) (fun j hj ih hp M C L RR hq9 => ?_)
  · obtain ⟨C0, C1, C2, C3, C4, C5, C6, C7, C8, C9, g, gA, gB⟩ := id C
    have hob := C0.ob
    have hoL := L.ob
    have hoR := RR.ob
    obtain ⟨L1, L2, L3, L4, L5⟩ := id L
    refine x_iload (pc := 120) dX6_gatherBeside_120 rfl ?_
    refine x_iload (pc := 122) dX6_gatherBeside_122 rfl ?_
    refine x_icmp_ge (pc := 124) (tgt := 157) dX6_gatherBeside_124 (by decide) (by omega) (by omega) (fun c124 => ?_) (fun c124 => ?_)
    · exact hq9 hp M C L RR Fr.rf (fun z _ => rfl) (fun c => by rw [if_neg (by omega)])
    · exact absurd c124 (by omega)
  · obtain ⟨C0, C1, C2, C3, C4, C5, C6, C7, C8, C9, g, gA, gB⟩ := id C
    have hob := C0.ob
    have hoL := L.ob
    have hoR := RR.ob
    obtain ⟨L1, L2, L3, L4, L5⟩ := id L
    refine x_iload (pc := 120) dX6_gatherBeside_120 rfl ?_
    refine x_iload (pc := 122) dX6_gatherBeside_122 rfl ?_
    refine x_icmp_ge (pc := 124) (tgt := 157) dX6_gatherBeside_124 (by decide) (by omega) (by omega) (fun c124 => ?_) (fun c124 => ?_)
    · exact absurd c124 (by omega)
    · refine x_aload_n (pc := 127) dX6_gatherBeside_127 rfl ?_
      refine x_gf (pc := 128) dX6_gatherBeside_128 fX6_45 (by assumption) (by omega) ?_
      refine x_iload (pc := 131) dX6_gatherBeside_131 rfl ?_
      refine x_iload (pc := 133) dX6_gatherBeside_133 rfl ?_
      refine x_iload (pc := 135) dX6_gatherBeside_135 rfl ?_
      refine x_iadd (pc := 137) dX6_gatherBeside_137 ?_
      rw [show (x : Int) + (j : Int) = ((x + j : Nat) : Int) by omega]
      refine x_aload_n (pc := 138) dX6_gatherBeside_138 rfl ?_
      refine x_iload_n (pc := 139) dX6_gatherBeside_139 rfl ?_
      refine x_iload_n (pc := 140) dX6_gatherBeside_140 rfl ?_
      refine x_iload (pc := 141) dX6_gatherBeside_141 rfl ?_
      refine x_iload (pc := 143) dX6_gatherBeside_143 rfl ?_
      refine x_w4 (pc := 145) dX6_gatherBeside_145 wX0_numberBeside iX0_numberBeside kX6_234 (by decide) rfl (Nat.le_of_ble_eq_true rfl) hoL (by omega) (t_numberBeside L (by omega) (k := t) (r := r) (c := j) b (by omega) (by omega) (by omega)) ?_
      refine x_p3 (pc := 148) dX6_gatherBeside_148 wX3_put iX3_put kX6_238 (by decide) rfl (Nat.le_of_ble_eq_true rfl) hoR (by omega) (t_Rput RR (by omega) (i := r) (j := (x + j)) (by omega) (by omega)) (fun h148 e148 => ?_)
      obtain ⟨f9, R9⟩ := e148
      refine x_iinc (pc := 151) dX6_gatherBeside_151 rfl (by decide) rfl ?_
      show Ex _ _ _ _ _ _ [_, _, _, _, _, _, _, _] _ _ _ _
      refine x_goto (pc := 154) (tgt := 120) dX6_gatherBeside_154 (by decide) ?_
      exact ih _ _ (C.keep (f9 0 (by omega)) (f9 1 (by omega))) (L.keep (fun x h1 h2 => f9 x (by omega))) R9 (fun h M1 C1 l1 r1 f1 e0 e1 => hq9 h M1 C1 l1 r1 (f9.tr f1) (fun z hz9 => (e0 z hz9).trans (up_n _ _ hz9)) (fun c => by
        rw [e1 c, up_s]
        by_cases e : c = (x + j)
        · subst e
          rw [if_neg (by omega), up_s]
          refine Eq.trans ?_ (if_pos (by omega)).symm
          unfold nb
          rw [show x + j - x = j by omega]
        · rw [up_n _ _ e]
          by_cases e2 : (x + j) + 1 ≤ c ∧ c < x + u
          · rw [if_pos (by omega), if_pos (by omega)]
          · rw [if_neg (by omega), if_neg (by omega)]))

theorem k_gat0 {G : GL} {d : Nat} {sz p N : Nat} (hz : 92 ≤ sz) (hN : 1 ≤ N ∧ N ≤ 8) {q t x u m w cw : Nat} {b : Bool} (hq : 2 ≤ q ∧ q + 2 < 29) (ht : t < N) {s' n : Nat → Int} (es : s' t = (m : Int)) (hm : m ≤ 4) (hx : x ≤ 4) (hu : u ≤ 4) (hx0 : 0 < x → 0 < t) (hu0 : 0 < u → t + 1 < N) {hd : Nat → Int} {Q : Option AV → HP → Nat → Prop} (hn : inL n p) : ∀ r, r ≤ m → ∀ (hp : HP) (M : Nat → Nat → Int) (v7 : AV), ClsA hp p N → Lay hp q s' n cw → RowsA hp 29 p M hd m w → (∀ z, z < r → ∀ c, c < x + u → M z c = gat b n t x z c) → (∀ i j, i < 4 → j < 8 → 0 ≤ M i j ∧ M i j < p) → (∀ h M1, ClsA h p N → Lay h q s' n cw → RowsA h 29 p M1 hd m w → Fr hp h 29 35 → (∀ z, z < m → ∀ c, c < x + u → M1 z c = gat b n t x z c) → (∀ i j, i < 4 → j < 8 → 0 ≤ M1 i j ∧ M1 i j < p) → Q none h sz) → Ex G (d + 3) 0 0 mX6_gatherBeside 67 [vr 0, vr q, vi t, vi (bz b), vi x, vi u, vi r, v7] [] hp sz Q := by
  refine down (fun hp M v7 C L RR hM hO hq9 => ?_) (fun r hr ih hp M v7 C L RR hM hO hq9 => ?_)
  · obtain ⟨C0, C1, C2, C3, C4, C5, C6, C7, C8, C9, g, gA, gB⟩ := id C
    have hob := C0.ob
    have hoL := L.ob
    have hoR := RR.ob
    obtain ⟨L1, L2, L3, L4, L5⟩ := id L
    refine x_iload (pc := 67) dX6_gatherBeside_67 rfl ?_
    refine x_aload_n (pc := 69) dX6_gatherBeside_69 rfl ?_
    refine x_gn (pc := 70) dX6_gatherBeside_70 fX6_95 (by assumption) (by omega) ?_
    refine x_iload_n (pc := 73) dX6_gatherBeside_73 rfl ?_
    refine x_il (pc := 74) dX6_gatherBeside_74 (by assumption) (by omega) rfl (by omega) ?_
    rw [es]
    refine x_icmp_ge (pc := 75) (tgt := 163) dX6_gatherBeside_75 (by decide) (by omega) (by omega) (fun c75 => ?_) (fun c75 => ?_)
    · refine x_vret (pc := 163) dX6_gatherBeside_163 rfl (hq9 hp M C L RR Fr.rf hM hO)
    · exact absurd c75 (by omega)
  · obtain ⟨C0, C1, C2, C3, C4, C5, C6, C7, C8, C9, g, gA, gB⟩ := id C
    have hob := C0.ob
    have hoL := L.ob
    have hoR := RR.ob
    obtain ⟨L1, L2, L3, L4, L5⟩ := id L
    refine x_iload (pc := 67) dX6_gatherBeside_67 rfl ?_
    refine x_aload_n (pc := 69) dX6_gatherBeside_69 rfl ?_
    refine x_gn (pc := 70) dX6_gatherBeside_70 fX6_95 (by assumption) (by omega) ?_
    refine x_iload_n (pc := 73) dX6_gatherBeside_73 rfl ?_
    refine x_il (pc := 74) dX6_gatherBeside_74 (by assumption) (by omega) rfl (by omega) ?_
    rw [es]
    refine x_icmp_ge (pc := 75) (tgt := 163) dX6_gatherBeside_75 (by decide) (by omega) (by omega) (fun c75 => ?_) (fun c75 => ?_)
    · exact absurd c75 (by omega)
    · refine x_iconst (pc := 78) dX6_gatherBeside_78 ?_
      refine x_istore (pc := 79) dX6_gatherBeside_79 (by decide) rfl ?_
      show Ex _ _ _ _ _ _ [_, _, _, _, _, _, _, _] _ _ _ _
      refine k_gat1 (d := d) hz hN hq ht es hm hx hu hx0 hu0 hr 0 (by omega) hp M C L RR (fun h1 M1 C1 l1 r1 f1 e0 e1 => ?_)
      refine x_iconst (pc := 117) dX6_gatherBeside_117 ?_
      refine x_istore (pc := 118) dX6_gatherBeside_118 (by decide) rfl ?_
      show Ex _ _ _ _ _ _ [_, _, _, _, _, _, _, _] _ _ _ _
      refine k_gat2 (d := d) hz hN hq ht es hm hx hu hx0 hu0 hr 0 (by omega) h1 M1 C1 l1 r1 (fun h2 M2 C2 l2 r2 f2 e2 e3 => ?_)
      have hrow : ∀ c, M2 r c = if c < x then nb b n (t - 1) r c else if c < x + u then nb b n t r (c - x) else M r c := fun c => by
        rw [e3 c]
        by_cases a1 : c < x
        · rw [if_neg (by omega), e1 c, if_pos (by omega), if_pos a1]
        · rw [if_neg (c := c < x) a1]
          by_cases a2 : c < x + u
          · rw [if_pos (by omega), if_pos a2]
          · rw [if_neg (by omega), if_neg a2, e1 c, if_neg (by omega)]
      refine x_iinc (pc := 157) dX6_gatherBeside_157 rfl (by decide) rfl ?_
      show Ex _ _ _ _ _ _ [_, _, _, _, _, _, _, _] _ _ _ _
      refine x_goto (pc := 160) (tgt := 67) dX6_gatherBeside_160 (by decide) ?_
      exact ih h2 M2 _ C2 l2 r2 (fun z hz9 c hc => by
        by_cases e : z = r
        · subst e
          rw [hrow c]
          unfold gat
          by_cases a1 : c < x
          · rw [if_pos a1, if_pos a1]
          · rw [if_neg a1, if_neg a1, if_pos hc]
        · rw [e2 z e, e0 z e]; exact hM z (by omega) c hc) (fun z c hz9 hc => by
        by_cases e : z = r
        · subst e
          rw [hrow c]
          by_cases a1 : c < x
          · rw [if_pos a1]; unfold nb; split <;> exact hn _ (by omega)
          · rw [if_neg a1]
            by_cases a2 : c < x + u
            · rw [if_pos a2]; unfold nb; split <;> exact hn _ (by omega)
            · rw [if_neg a2]; exact hO z c hz9 hc
        · rw [e2 z e, e0 z e]; exact hO z c hz9 hc) (fun h M9 C9 l9 r9 f9 => hq9 h M9 C9 l9 r9 ((f1.tr f2).tr f9))

set_option maxRecDepth 4000 in
theorem t_gather {G : GL} {d : Nat} {hp : HP} {sz p N : Nat} (C : ClsA hp p N) (hz : 92 ≤ sz) (hN : 1 ≤ N ∧ N ≤ 8) {q t cw : Nat} {b : Bool} (hq : 2 ≤ q ∧ q + 2 < 29) (ht : t < N) {s' n : Nat → Int} {s : Nat → Nat} (hs : cs8 s' s) (hn : inL n p) (L : Lay hp q s' n cw) (RX : RwX hp 29 p) : Ct G (d + 3) 0 0 mX6_gatherBeside [vr 0, vr q, vi t, vi (bz b)] hp sz (Vd (fun h => Fr hp h 29 35 ∧ ∃ M1 hd1, RowsA h 29 p M1 hd1 (s t) (lx s t + ry N s t) ∧ inP M1 p ∧ (∀ j, j < 8 → hd1 j = -1) ∧ ∀ r, r < s t → ∀ c, c < lx s t + ry N s t → M1 r c = gat b n t (lx s t) r c) sz) := by
  show Ex _ _ _ _ _ _ [vr 0, vr q, vi t, vi (bz b), vu, vu, vu, vu] _ _ _ _
  obtain ⟨M0, hd0, c0, w0, RR, hM0⟩ := RX
  have hst := hs t (by omega)
  have hlx : lx s t ≤ 4 := by unfold lx; split; exact (hs _ (by omega)).2; omega
  have hry : ry N s t ≤ 4 := by unfold ry; split; exact (hs _ (by omega)).2; omega
  obtain ⟨C0, C1, C2, C3, C4, C5, C6, C7, C8, C9, g, gA, gB⟩ := id C
  have hob := C0.ob
  have hoL := L.ob
  have hoR := RR.ob
  obtain ⟨L1, L2, L3, L4, L5⟩ := id L
  refine x_aload_n (pc := 0) dX6_gatherBeside_0 rfl ?_
  refine x_iload_n (pc := 1) dX6_gatherBeside_1 rfl ?_
  refine x_iconst (pc := 2) dX6_gatherBeside_2 ?_
  refine x_isub (pc := 3) dX6_gatherBeside_3 ?_
  refine x_w1 (pc := 4) dX6_gatherBeside_4 wX6_isArrow iX6_isArrow kX6_151 (by decide) rfl (Nat.le_of_ble_eq_true rfl) (by assumption) (by omega) (t_isArrow C hz hN (by omega)) ?_
  refine x_if_eq (pc := 7) (tgt := 21) dX6_gatherBeside_7 (by decide) (bz_rg _) (fun c7 => ?_) (fun c7 => ?_)
  · have d1 := bz_e c7
    refine x_iconst (pc := 21) dX6_gatherBeside_21 ?_
    first
      | rw [show ((s (t - 1) : Nat) : Int) = ((lx s t : Nat) : Int) from by unfold lx; rw [if_pos (by omega)]]
      | rw [show (0 : Int) = ((lx s t : Nat) : Int) from by unfold lx; rw [if_neg (by omega)]; rfl]
    refine x_istore (pc := 22) dX6_gatherBeside_22 (by decide) rfl ?_
    show Ex _ _ _ _ _ _ [_, _, _, _, _, _, _, _] _ _ _ _
    refine x_aload_n (pc := 24) dX6_gatherBeside_24 rfl ?_
    refine x_iload_n (pc := 25) dX6_gatherBeside_25 rfl ?_
    refine x_w1 (pc := 26) dX6_gatherBeside_26 wX6_isArrow iX6_isArrow kX6_151 (by decide) rfl (Nat.le_of_ble_eq_true rfl) (by assumption) (by omega) (t_isArrow C hz hN (by omega)) ?_
    refine x_if_eq (pc := 29) (tgt := 43) dX6_gatherBeside_29 (by decide) (bz_rg _) (fun c29 => ?_) (fun c29 => ?_)
    · have d2 := bz_e c29
      refine x_iconst (pc := 43) dX6_gatherBeside_43 ?_
      first
        | rw [show ((s (t + 1) : Nat) : Int) = ((ry N s t : Nat) : Int) from by unfold ry; rw [if_pos (by omega)]]
        | rw [show (0 : Int) = ((ry N s t : Nat) : Int) from by unfold ry; rw [if_neg (by omega)]; rfl]
      refine x_istore (pc := 44) dX6_gatherBeside_44 (by decide) rfl ?_
      show Ex _ _ _ _ _ _ [_, _, _, _, _, _, _, _] _ _ _ _
      refine x_aload_n (pc := 46) dX6_gatherBeside_46 rfl ?_
      refine x_gf (pc := 47) dX6_gatherBeside_47 fX6_45 (by assumption) (by omega) ?_
      refine x_aload_n (pc := 50) dX6_gatherBeside_50 rfl ?_
      refine x_gn (pc := 51) dX6_gatherBeside_51 fX6_95 (by assumption) (by omega) ?_
      refine x_iload_n (pc := 54) dX6_gatherBeside_54 rfl ?_
      refine x_il (pc := 55) dX6_gatherBeside_55 (by assumption) (by omega) rfl (by omega) ?_
      rw [hst.1]
      refine x_iload (pc := 56) dX6_gatherBeside_56 rfl ?_
      refine x_iload (pc := 58) dX6_gatherBeside_58 rfl ?_
      refine x_iadd (pc := 60) dX6_gatherBeside_60 ?_
      rw [show ((lx s t : Nat) : Int) + ((ry N s t : Nat) : Int) = ((lx s t + ry N s t : Nat) : Int) by omega]
      refine x_p2 (pc := 61) dX6_gatherBeside_61 wX3_start iX3_start kX6_231 (by decide) rfl (Nat.le_of_ble_eq_true rfl) hoR (by omega) (t_start RR (by omega) (x := s t) (y := lx s t + ry N s t) (by omega) (by omega)) (fun h61 e61 => ?_)
      obtain ⟨f61, hd1, R1, e1⟩ := e61
      rw [show min (s t) 4 = s t by omega, show min (lx s t + ry N s t) 8 = lx s t + ry N s t by omega] at R1
      refine x_iconst (pc := 64) dX6_gatherBeside_64 ?_
      refine x_istore (pc := 65) dX6_gatherBeside_65 (by decide) rfl ?_
      show Ex _ _ _ _ _ _ [_, _, _, _, _, _, _, _] _ _ _ _
      exact k_gat0 (d := d) (x := lx s t) (u := ry N s t) hz hN hq ht hst.1 hst.2 hlx hry (fun h => by unfold lx at h; split at h <;> omega) (fun h => by unfold ry at h; split at h <;> omega) hn 0 (by omega) h61 M0 _ (C.keep (f61 0 (by omega)) (f61 1 (by omega))) (L.keep (fun x h1 h2 => f61 x (by omega))) R1 (fun z hz9 => absurd hz9 (Nat.not_lt_zero _)) hM0 (fun h M1 C1 l1 r1 f1 g1 o1 => ⟨rfl, rfl, f61.tr f1, M1, hd1, r1, o1, e1, g1⟩)
    · have d2 := bz_n c29
      refine x_aload_n (pc := 32) dX6_gatherBeside_32 rfl ?_
      refine x_gn (pc := 33) dX6_gatherBeside_33 fX6_95 (by assumption) (by omega) ?_
      refine x_iload_n (pc := 36) dX6_gatherBeside_36 rfl ?_
      refine x_iconst (pc := 37) dX6_gatherBeside_37 ?_
      refine x_iadd (pc := 38) dX6_gatherBeside_38 ?_
      refine x_il (pc := 39) (j := t + 1) dX6_gatherBeside_39 (by assumption) (by omega) (by omega) (by omega) ?_
      rw [(hs (t + 1) (by omega)).1]
      refine x_goto (pc := 40) (tgt := 44) dX6_gatherBeside_40 (by decide) ?_
      first
        | rw [show ((s (t + 1) : Nat) : Int) = ((ry N s t : Nat) : Int) from by unfold ry; rw [if_pos (by omega)]]
        | rw [show (0 : Int) = ((ry N s t : Nat) : Int) from by unfold ry; rw [if_neg (by omega)]; rfl]
      refine x_istore (pc := 44) dX6_gatherBeside_44 (by decide) rfl ?_
      show Ex _ _ _ _ _ _ [_, _, _, _, _, _, _, _] _ _ _ _
      refine x_aload_n (pc := 46) dX6_gatherBeside_46 rfl ?_
      refine x_gf (pc := 47) dX6_gatherBeside_47 fX6_45 (by assumption) (by omega) ?_
      refine x_aload_n (pc := 50) dX6_gatherBeside_50 rfl ?_
      refine x_gn (pc := 51) dX6_gatherBeside_51 fX6_95 (by assumption) (by omega) ?_
      refine x_iload_n (pc := 54) dX6_gatherBeside_54 rfl ?_
      refine x_il (pc := 55) dX6_gatherBeside_55 (by assumption) (by omega) rfl (by omega) ?_
      rw [hst.1]
      refine x_iload (pc := 56) dX6_gatherBeside_56 rfl ?_
      refine x_iload (pc := 58) dX6_gatherBeside_58 rfl ?_
      refine x_iadd (pc := 60) dX6_gatherBeside_60 ?_
      rw [show ((lx s t : Nat) : Int) + ((ry N s t : Nat) : Int) = ((lx s t + ry N s t : Nat) : Int) by omega]
      refine x_p2 (pc := 61) dX6_gatherBeside_61 wX3_start iX3_start kX6_231 (by decide) rfl (Nat.le_of_ble_eq_true rfl) hoR (by omega) (t_start RR (by omega) (x := s t) (y := lx s t + ry N s t) (by omega) (by omega)) (fun h61 e61 => ?_)
      obtain ⟨f61, hd1, R1, e1⟩ := e61
      rw [show min (s t) 4 = s t by omega, show min (lx s t + ry N s t) 8 = lx s t + ry N s t by omega] at R1
      refine x_iconst (pc := 64) dX6_gatherBeside_64 ?_
      refine x_istore (pc := 65) dX6_gatherBeside_65 (by decide) rfl ?_
      show Ex _ _ _ _ _ _ [_, _, _, _, _, _, _, _] _ _ _ _
      exact k_gat0 (d := d) (x := lx s t) (u := ry N s t) hz hN hq ht hst.1 hst.2 hlx hry (fun h => by unfold lx at h; split at h <;> omega) (fun h => by unfold ry at h; split at h <;> omega) hn 0 (by omega) h61 M0 _ (C.keep (f61 0 (by omega)) (f61 1 (by omega))) (L.keep (fun x h1 h2 => f61 x (by omega))) R1 (fun z hz9 => absurd hz9 (Nat.not_lt_zero _)) hM0 (fun h M1 C1 l1 r1 f1 g1 o1 => ⟨rfl, rfl, f61.tr f1, M1, hd1, r1, o1, e1, g1⟩)
  · have d1 := bz_n c7
    refine x_aload_n (pc := 10) dX6_gatherBeside_10 rfl ?_
    refine x_gn (pc := 11) dX6_gatherBeside_11 fX6_95 (by assumption) (by omega) ?_
    refine x_iload_n (pc := 14) dX6_gatherBeside_14 rfl ?_
    refine x_iconst (pc := 15) dX6_gatherBeside_15 ?_
    refine x_isub (pc := 16) dX6_gatherBeside_16 ?_
    refine x_il (pc := 17) (j := t - 1) dX6_gatherBeside_17 (by assumption) (by omega) (by omega) (by omega) ?_
    rw [(hs (t - 1) (by omega)).1]
    refine x_goto (pc := 18) (tgt := 22) dX6_gatherBeside_18 (by decide) ?_
    first
      | rw [show ((s (t - 1) : Nat) : Int) = ((lx s t : Nat) : Int) from by unfold lx; rw [if_pos (by omega)]]
      | rw [show (0 : Int) = ((lx s t : Nat) : Int) from by unfold lx; rw [if_neg (by omega)]; rfl]
    refine x_istore (pc := 22) dX6_gatherBeside_22 (by decide) rfl ?_
    show Ex _ _ _ _ _ _ [_, _, _, _, _, _, _, _] _ _ _ _
    refine x_aload_n (pc := 24) dX6_gatherBeside_24 rfl ?_
    refine x_iload_n (pc := 25) dX6_gatherBeside_25 rfl ?_
    refine x_w1 (pc := 26) dX6_gatherBeside_26 wX6_isArrow iX6_isArrow kX6_151 (by decide) rfl (Nat.le_of_ble_eq_true rfl) (by assumption) (by omega) (t_isArrow C hz hN (by omega)) ?_
    refine x_if_eq (pc := 29) (tgt := 43) dX6_gatherBeside_29 (by decide) (bz_rg _) (fun c29 => ?_) (fun c29 => ?_)
    · have d2 := bz_e c29
      refine x_iconst (pc := 43) dX6_gatherBeside_43 ?_
      first
        | rw [show ((s (t + 1) : Nat) : Int) = ((ry N s t : Nat) : Int) from by unfold ry; rw [if_pos (by omega)]]
        | rw [show (0 : Int) = ((ry N s t : Nat) : Int) from by unfold ry; rw [if_neg (by omega)]; rfl]
      refine x_istore (pc := 44) dX6_gatherBeside_44 (by decide) rfl ?_
      show Ex _ _ _ _ _ _ [_, _, _, _, _, _, _, _] _ _ _ _
      refine x_aload_n (pc := 46) dX6_gatherBeside_46 rfl ?_
      refine x_gf (pc := 47) dX6_gatherBeside_47 fX6_45 (by assumption) (by omega) ?_
      refine x_aload_n (pc := 50) dX6_gatherBeside_50 rfl ?_
      refine x_gn (pc := 51) dX6_gatherBeside_51 fX6_95 (by assumption) (by omega) ?_
      refine x_iload_n (pc := 54) dX6_gatherBeside_54 rfl ?_
      refine x_il (pc := 55) dX6_gatherBeside_55 (by assumption) (by omega) rfl (by omega) ?_
      rw [hst.1]
      refine x_iload (pc := 56) dX6_gatherBeside_56 rfl ?_
      refine x_iload (pc := 58) dX6_gatherBeside_58 rfl ?_
      refine x_iadd (pc := 60) dX6_gatherBeside_60 ?_
      rw [show ((lx s t : Nat) : Int) + ((ry N s t : Nat) : Int) = ((lx s t + ry N s t : Nat) : Int) by omega]
      refine x_p2 (pc := 61) dX6_gatherBeside_61 wX3_start iX3_start kX6_231 (by decide) rfl (Nat.le_of_ble_eq_true rfl) hoR (by omega) (t_start RR (by omega) (x := s t) (y := lx s t + ry N s t) (by omega) (by omega)) (fun h61 e61 => ?_)
      obtain ⟨f61, hd1, R1, e1⟩ := e61
      rw [show min (s t) 4 = s t by omega, show min (lx s t + ry N s t) 8 = lx s t + ry N s t by omega] at R1
      refine x_iconst (pc := 64) dX6_gatherBeside_64 ?_
      refine x_istore (pc := 65) dX6_gatherBeside_65 (by decide) rfl ?_
      show Ex _ _ _ _ _ _ [_, _, _, _, _, _, _, _] _ _ _ _
      exact k_gat0 (d := d) (x := lx s t) (u := ry N s t) hz hN hq ht hst.1 hst.2 hlx hry (fun h => by unfold lx at h; split at h <;> omega) (fun h => by unfold ry at h; split at h <;> omega) hn 0 (by omega) h61 M0 _ (C.keep (f61 0 (by omega)) (f61 1 (by omega))) (L.keep (fun x h1 h2 => f61 x (by omega))) R1 (fun z hz9 => absurd hz9 (Nat.not_lt_zero _)) hM0 (fun h M1 C1 l1 r1 f1 g1 o1 => ⟨rfl, rfl, f61.tr f1, M1, hd1, r1, o1, e1, g1⟩)
    · have d2 := bz_n c29
      refine x_aload_n (pc := 32) dX6_gatherBeside_32 rfl ?_
      refine x_gn (pc := 33) dX6_gatherBeside_33 fX6_95 (by assumption) (by omega) ?_
      refine x_iload_n (pc := 36) dX6_gatherBeside_36 rfl ?_
      refine x_iconst (pc := 37) dX6_gatherBeside_37 ?_
      refine x_iadd (pc := 38) dX6_gatherBeside_38 ?_
      refine x_il (pc := 39) (j := t + 1) dX6_gatherBeside_39 (by assumption) (by omega) (by omega) (by omega) ?_
      rw [(hs (t + 1) (by omega)).1]
      refine x_goto (pc := 40) (tgt := 44) dX6_gatherBeside_40 (by decide) ?_
      first
        | rw [show ((s (t + 1) : Nat) : Int) = ((ry N s t : Nat) : Int) from by unfold ry; rw [if_pos (by omega)]]
        | rw [show (0 : Int) = ((ry N s t : Nat) : Int) from by unfold ry; rw [if_neg (by omega)]; rfl]
      refine x_istore (pc := 44) dX6_gatherBeside_44 (by decide) rfl ?_
      show Ex _ _ _ _ _ _ [_, _, _, _, _, _, _, _] _ _ _ _
      refine x_aload_n (pc := 46) dX6_gatherBeside_46 rfl ?_
      refine x_gf (pc := 47) dX6_gatherBeside_47 fX6_45 (by assumption) (by omega) ?_
      refine x_aload_n (pc := 50) dX6_gatherBeside_50 rfl ?_
      refine x_gn (pc := 51) dX6_gatherBeside_51 fX6_95 (by assumption) (by omega) ?_
      refine x_iload_n (pc := 54) dX6_gatherBeside_54 rfl ?_
      refine x_il (pc := 55) dX6_gatherBeside_55 (by assumption) (by omega) rfl (by omega) ?_
      rw [hst.1]
      refine x_iload (pc := 56) dX6_gatherBeside_56 rfl ?_
      refine x_iload (pc := 58) dX6_gatherBeside_58 rfl ?_
      refine x_iadd (pc := 60) dX6_gatherBeside_60 ?_
      rw [show ((lx s t : Nat) : Int) + ((ry N s t : Nat) : Int) = ((lx s t + ry N s t : Nat) : Int) by omega]
      refine x_p2 (pc := 61) dX6_gatherBeside_61 wX3_start iX3_start kX6_231 (by decide) rfl (Nat.le_of_ble_eq_true rfl) hoR (by omega) (t_start RR (by omega) (x := s t) (y := lx s t + ry N s t) (by omega) (by omega)) (fun h61 e61 => ?_)
      obtain ⟨f61, hd1, R1, e1⟩ := e61
      rw [show min (s t) 4 = s t by omega, show min (lx s t + ry N s t) 8 = lx s t + ry N s t by omega] at R1
      refine x_iconst (pc := 64) dX6_gatherBeside_64 ?_
      refine x_istore (pc := 65) dX6_gatherBeside_65 (by decide) rfl ?_
      show Ex _ _ _ _ _ _ [_, _, _, _, _, _, _, _] _ _ _ _
      exact k_gat0 (d := d) (x := lx s t) (u := ry N s t) hz hN hq ht hst.1 hst.2 hlx hry (fun h => by unfold lx at h; split at h <;> omega) (fun h => by unfold ry at h; split at h <;> omega) hn 0 (by omega) h61 M0 _ (C.keep (f61 0 (by omega)) (f61 1 (by omega))) (L.keep (fun x h1 h2 => f61 x (by omega))) R1 (fun z hz9 => absurd hz9 (Nat.not_lt_zero _)) hM0 (fun h M1 C1 l1 r1 f1 g1 o1 => ⟨rfl, rfl, f61.tr f1, M1, hd1, r1, o1, e1, g1⟩)

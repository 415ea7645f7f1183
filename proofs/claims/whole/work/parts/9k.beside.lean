/-! beside, in the class -/
def besT (N : Nat) (Lf : Nat → Bool) (sA sB : Nat → Nat) (nA nB : Nat → Int) (x : Nat) : Int :=
  if x / 16 + 1 < N then (if x % 16 / 4 < sA (ta Lf (x / 16)) ∧ x % 4 < sA (so Lf (x / 16)) then nA x else if sA (ta Lf (x / 16)) ≤ x % 16 / 4 ∧ x % 16 / 4 < sA (ta Lf (x / 16)) + sB (ta Lf (x / 16)) ∧ sA (so Lf (x / 16)) ≤ x % 4 ∧ x % 4 < sA (so Lf (x / 16)) + sB (so Lf (x / 16)) then nB (x / 16 * 16 + (x % 16 / 4 - sA (ta Lf (x / 16))) * 4 + (x % 4 - sA (so Lf (x / 16)))) else 0) else 0
/-- one arrow's two tables -/
theorem bes_step {N : Nat} {Lf : Nat → Bool} {sA sB : Nat → Nat} {nA nB n n1 n2 : Nat → Int} {k : Nat} (hk : k + 1 < N) (hA1 : sA (ta Lf k) + sB (ta Lf k) ≤ 4) (hA2 : sA (so Lf k) + sB (so Lf k) ≤ 4) (hn : ∀ x, x < 112 → n x = if x / 16 < k then besT N Lf sA sB nA nB x else 0) (e1 : ∀ r c, r < sA (ta Lf k) → c < sA (so Lf k) → n1 (k * 16 + (0 + r) * 4 + (0 + c)) = nA (k * 16 + r * 4 + c)) (e2 : ∀ x, (∀ r c, r < sA (ta Lf k) → c < sA (so Lf k) → x ≠ k * 16 + (0 + r) * 4 + (0 + c)) → n1 x = n x) (e3 : ∀ r c, r < sB (ta Lf k) → c < sB (so Lf k) → n2 (k * 16 + (sA (ta Lf k) + r) * 4 + (sA (so Lf k) + c)) = nB (k * 16 + r * 4 + c)) (e4 : ∀ x, (∀ r c, r < sB (ta Lf k) → c < sB (so Lf k) → x ≠ k * 16 + (sA (ta Lf k) + r) * 4 + (sA (so Lf k) + c)) → n2 x = n1 x) : ∀ x, x < 112 → n2 x = if x / 16 < k + 1 then besT N Lf sA sB nA nB x else 0 := by
  intro x hx
  by_cases ek : x / 16 = k
  · rw [if_pos (by omega)]
    unfold besT
    rw [ek, if_pos hk]
    by_cases a1 : x % 16 / 4 < sA (ta Lf k) ∧ x % 4 < sA (so Lf k)
    · rw [if_pos a1, e4 x (fun r c hr hc => by omega)]
      have := e1 (x % 16 / 4) (x % 4) a1.1 a1.2
      rw [show k * 16 + (0 + x % 16 / 4) * 4 + (0 + x % 4) = x by omega, show k * 16 + x % 16 / 4 * 4 + x % 4 = x by omega] at this
      exact this
    · rw [if_neg a1]
      by_cases a2 : sA (ta Lf k) ≤ x % 16 / 4 ∧ x % 16 / 4 < sA (ta Lf k) + sB (ta Lf k) ∧ sA (so Lf k) ≤ x % 4 ∧ x % 4 < sA (so Lf k) + sB (so Lf k)
      · rw [if_pos a2]
        have := e3 (x % 16 / 4 - sA (ta Lf k)) (x % 4 - sA (so Lf k)) (by omega) (by omega)
        rw [show k * 16 + (sA (ta Lf k) + (x % 16 / 4 - sA (ta Lf k))) * 4 + (sA (so Lf k) + (x % 4 - sA (so Lf k))) = x by omega] at this
        exact this
      · rw [if_neg a2, e4 x (fun r c hr hc => by omega), e2 x (fun r c hr hc => by omega), hn x hx, if_neg (by omega)]
  · rw [e4 x (fun r c hr hc => by omega), e2 x (fun r c hr hc => by omega), hn x hx]
    by_cases l : x / 16 < k
    · rw [if_pos l, if_pos (by omega)]
    · rw [if_neg l, if_neg (by omega)]

theorem k_bes1 {G : GL} {d : Nat} {sz p N : Nat} (hz : 92 ≤ sz) (hN : 1 ≤ N ∧ N ≤ 8) {a b t : Nat} (ha : a < 8) (hb : b < 8) {S T : Nat → Nat → Int} {W : Nat → Nat} (hS : inS S) (hab : W a = W b) (hfit : ∀ j, j < N → S a j + S b j ≤ 4) {Q : Option AV → HP → Nat → Prop} {n : Nat → Int} {w : Nat} : ∀ k, k ≤ N → ∀ (hp : HP) (s : Nat → Int), ClsA hp p N → LysA hp S T W → Lay hp 26 s n w → (∀ j, j < 8 → s j = if j < k then S a j + S b j else 0) → (∀ h s1, ClsA h p N → LysA h S T W → Lay h 26 s1 n w → Fr hp h 26 28 → (∀ j, j < 8 → s1 j = if j < N then S a j + S b j else 0) → Ex G (d + 4) 0 0 mX6_beside 107 [vr 0, vi a, vi b, vi t, vi N] [] h sz Q) → Ex G (d + 4) 0 0 mX6_beside 57 [vr 0, vi a, vi b, vi t, vi k] [] hp sz Q := by
  refine down (fun hp s C Ls L hs hq => ?_) (fun k hk ih hp s C Ls L hs hq => ?_)
  · obtain ⟨C0, C1, C2, C3, C4, C5, C6, C7, C8, C9, g, gA, gB⟩ := id C
    have hob := C0.ob
    obtain ⟨LA, hwa⟩ := Ls a ha
    obtain ⟨LB, hwb⟩ := Ls b hb
    obtain ⟨P1, P2, P3, P4, P5⟩ := id LA
    obtain ⟨R1, R2, R3, R4, R5⟩ := id LB
    obtain ⟨Q1, Q2, Q3, Q4, Q5⟩ := id L
    have hoL := Q1.ob
    have hoA := P1.ob
    have hoB := R1.ob
    refine x_iload (pc := 57) dX6_beside_57 rfl ?_
    refine x_aload_n (pc := 59) dX6_beside_59 rfl ?_
    refine x_gf (pc := 60) dX6_beside_60 fX6_26 (by assumption) (by omega) ?_
    refine x_icmp_ge (pc := 63) (tgt := 107) dX6_beside_63 (by decide) (by omega) (by omega) (fun c63 => ?_) (fun c63 => ?_)
    · exact hq hp s C Ls L Fr.rf (fun j hj => by rw [hs j hj])
    · exact absurd c63 (by omega)
  · obtain ⟨C0, C1, C2, C3, C4, C5, C6, C7, C8, C9, g, gA, gB⟩ := id C
    have hob := C0.ob
    obtain ⟨LA, hwa⟩ := Ls a ha
    obtain ⟨LB, hwb⟩ := Ls b hb
    obtain ⟨P1, P2, P3, P4, P5⟩ := id LA
    obtain ⟨R1, R2, R3, R4, R5⟩ := id LB
    obtain ⟨Q1, Q2, Q3, Q4, Q5⟩ := id L
    have hoL := Q1.ob
    have hoA := P1.ob
    have hoB := R1.ob
    refine x_iload (pc := 57) dX6_beside_57 rfl ?_
    refine x_aload_n (pc := 59) dX6_beside_59 rfl ?_
    refine x_gf (pc := 60) dX6_beside_60 fX6_26 (by assumption) (by omega) ?_
    refine x_icmp_ge (pc := 63) (tgt := 107) dX6_beside_63 (by decide) (by omega) (by omega) (fun c63 => ?_) (fun c63 => ?_)
    · exact absurd c63 (by omega)
    · refine x_aload_n (pc := 66) dX6_beside_66 rfl ?_
      refine x_gf (pc := 67) dX6_beside_67 fX6_36 (by assumption) (by omega) ?_
      refine x_gn (pc := 70) dX6_beside_70 fX6_95 (by assumption) (by omega) ?_
      refine x_iload (pc := 73) dX6_beside_73 rfl ?_
      refine x_aload_n (pc := 75) dX6_beside_75 rfl ?_
      refine x_gf (pc := 76) dX6_beside_76 fX6_31 (by assumption) (by omega) ?_
      refine x_iload_n (pc := 79) dX6_beside_79 rfl ?_
      refine x_al (pc := 80) dX6_beside_80 (by assumption) (by omega) rfl (by omega) (gB a ha) ?_
      refine x_gn (pc := 81) dX6_beside_81 fX6_95 (by assumption) (by omega) ?_
      refine x_iload (pc := 84) dX6_beside_84 rfl ?_
      refine x_il (pc := 86) dX6_beside_86 (by assumption) (by omega) rfl (by omega) ?_
      refine x_aload_n (pc := 87) dX6_beside_87 rfl ?_
      refine x_gf (pc := 88) dX6_beside_88 fX6_31 (by assumption) (by omega) ?_
      refine x_iload_n (pc := 91) dX6_beside_91 rfl ?_
      refine x_al (pc := 92) dX6_beside_92 (by assumption) (by omega) rfl (by omega) (gB b hb) ?_
      refine x_gn (pc := 93) dX6_beside_93 fX6_95 (by assumption) (by omega) ?_
      refine x_iload (pc := 96) dX6_beside_96 rfl ?_
      refine x_il (pc := 98) dX6_beside_98 (by assumption) (by omega) rfl (by omega) ?_
      refine x_iadd (pc := 99) dX6_beside_99 ?_
      refine x_is (pc := 100) dX6_beside_100 (by assumption) (by omega) rfl (by omega) ?_
      refine x_iinc (pc := 101) dX6_beside_101 rfl (by decide) rfl ?_
      show Ex _ _ _ _ _ _ [_, _, _, _, _] _ _ _ _
      refine x_goto (pc := 104) (tgt := 57) dX6_beside_104 (by decide) ?_
      exact ih _ _ (C.keep (up_n _ _ (by omega)) (up_n _ _ (by omega))) (Ls.kp (fun x h1 h2 => up_n _ _ (by omega))) ⟨Q1.up (by omega), Q2.up (by omega), Q3.up (by omega), up_s _ _ _, (up_n _ _ (by omega)).trans Q5⟩ (fun j hj => by
        by_cases e : j = k
        · subst e; rw [up_s, if_pos (by omega)]
        · rw [up_n _ _ e, hs j hj]
          by_cases l : j < k
          · rw [if_pos l, if_pos (by omega)]
          · rw [if_neg l, if_neg (by omega)]) (fun h s1 c1 l1 ll f1 => hq h s1 c1 l1 ll ((Fr.rf.up (by omega) (by omega)).tr f1))

theorem k_bes2 {G : GL} {d : Nat} {sz p N : Nat} (hz : 92 ≤ sz) (hN : 1 ≤ N ∧ N ≤ 8) {a b t : Nat} (ha : a < 8) (hb : b < 8) {S T : Nat → Nat → Int} {W : Nat → Nat} (hS : inS S) (hab : W a = W b) (hfit : ∀ j, j < N → S a j + S b j ≤ 4) {Q : Option AV → HP → Nat → Prop} {s : Nat → Int} {w : Nat} : ∀ k, k ≤ N - 1 → ∀ (hp : HP) (n : Nat → Int), ClsA hp p N → LysA hp S T W → Lay hp 26 s n w → (∀ x, x < 112 → n x = if x / 16 < k then besT N (Lw (W a)) (szc S a) (szc S b) (T a) (T b) x else 0) → (∀ h n1, ClsA h p N → LysA h S T W → Lay h 26 s n1 w → Fr hp h 26 28 → (∀ x, x < 112 → n1 x = if x / 16 < N - 1 then besT N (Lw (W a)) (szc S a) (szc S b) (T a) (T b) x else 0) → Ex G (d + 4) 0 0 mX6_beside 181 [vr 0, vi a, vi b, vi t, vi (N - 1 : Nat)] [] h sz Q) → Ex G (d + 4) 0 0 mX6_beside 110 [vr 0, vi a, vi b, vi t, vi k] [] hp sz Q := by
  refine down (fun hp n C Ls L hn hq => ?_) (fun k hk ih hp n C Ls L hn hq => ?_)
  · obtain ⟨C0, C1, C2, C3, C4, C5, C6, C7, C8, C9, g, gA, gB⟩ := id C
    have hob := C0.ob
    obtain ⟨LA, hwa⟩ := Ls a ha
    obtain ⟨LB, hwb⟩ := Ls b hb
    obtain ⟨P1, P2, P3, P4, P5⟩ := id LA
    obtain ⟨R1, R2, R3, R4, R5⟩ := id LB
    obtain ⟨Q1, Q2, Q3, Q4, Q5⟩ := id L
    have hoL := Q1.ob
    have hoA := P1.ob
    have hoB := R1.ob
    refine x_iload (pc := 110) dX6_beside_110 rfl ?_
    refine x_aload_n (pc := 112) dX6_beside_112 rfl ?_
    refine x_gf (pc := 113) dX6_beside_113 fX6_26 (by assumption) (by omega) ?_
    refine x_iconst (pc := 116) dX6_beside_116 ?_
    refine x_isub (pc := 117) dX6_beside_117 ?_
    refine x_icmp_ge (pc := 118) (tgt := 181) dX6_beside_118 (by decide) (by omega) (by omega) (fun c118 => ?_) (fun c118 => ?_)
    · exact hq hp n C Ls L Fr.rf hn
    · exact absurd c118 (by omega)
  · have eta : (if (W a).testBit k = true then k else k + 1) = (ta (Lw (W a)) k) := rfl
    have eso : (if (W a).testBit k = true then k + 1 else k) = (so (Lw (W a)) k) := rfl
    have hst := so_ta (Lf := Lw (W a)) (k := k)
    have hta := (szc_8 hS ha (ta (Lw (W a)) k) (by omega))
    have htb := (szc_8 hS hb (ta (Lw (W a)) k) (by omega))
    have hsa := (szc_8 hS ha (so (Lw (W a)) k) (by omega))
    have hsb := (szc_8 hS hb (so (Lw (W a)) k) (by omega))
    have hft : szc S a (ta (Lw (W a)) k) + szc S b (ta (Lw (W a)) k) ≤ 4 := by have := hfit (ta (Lw (W a)) k) (by omega); omega
    have hfs : szc S a (so (Lw (W a)) k) + szc S b (so (Lw (W a)) k) ≤ 4 := by have := hfit (so (Lw (W a)) k) (by omega); omega
    obtain ⟨C0, C1, C2, C3, C4, C5, C6, C7, C8, C9, g, gA, gB⟩ := id C
    have hob := C0.ob
    obtain ⟨LA, hwa⟩ := Ls a ha
    obtain ⟨LB, hwb⟩ := Ls b hb
    obtain ⟨P1, P2, P3, P4, P5⟩ := id LA
    obtain ⟨R1, R2, R3, R4, R5⟩ := id LB
    obtain ⟨Q1, Q2, Q3, Q4, Q5⟩ := id L
    have hoL := Q1.ob
    have hoA := P1.ob
    have hoB := R1.ob
    refine x_iload (pc := 110) dX6_beside_110 rfl ?_
    refine x_aload_n (pc := 112) dX6_beside_112 rfl ?_
    refine x_gf (pc := 113) dX6_beside_113 fX6_26 (by assumption) (by omega) ?_
    refine x_iconst (pc := 116) dX6_beside_116 ?_
    refine x_isub (pc := 117) dX6_beside_117 ?_
    refine x_icmp_ge (pc := 118) (tgt := 181) dX6_beside_118 (by decide) (by omega) (by omega) (fun c118 => ?_) (fun c118 => ?_)
    · exact absurd c118 (by omega)
    · refine x_aload_n (pc := 121) dX6_beside_121 rfl ?_
      refine x_gf (pc := 122) dX6_beside_122 fX6_36 (by assumption) (by omega) ?_
      refine x_aload_n (pc := 125) dX6_beside_125 rfl ?_
      refine x_gf (pc := 126) dX6_beside_126 fX6_31 (by assumption) (by omega) ?_
      refine x_iload_n (pc := 129) dX6_beside_129 rfl ?_
      refine x_al (pc := 130) dX6_beside_130 (by assumption) (by omega) rfl (by omega) (gB a ha) ?_
      refine x_iload (pc := 131) dX6_beside_131 rfl ?_
      refine x_iconst (pc := 133) dX6_beside_133 ?_
      refine x_iconst (pc := 134) dX6_beside_134 ?_
      refine x_p4 (pc := 135) dX6_beside_135 wX0_putTable iX0_putTable kX6_134 (by decide) rfl (Nat.le_of_ble_eq_true rfl) hoL (by omega) (t_putTable L (by omega) (top := 0) (left := 0) (R := szc S a (ta (Lw (W a)) k)) (C := szc S a (so (Lw (W a)) k)) LA (by omega) (by omega) (by omega) hwa (by rw [eta]; exact (szc_8 hS ha _ (by omega)).1) (by rw [eso]; exact (szc_8 hS ha _ (by omega)).1) (by omega) (by omega)) (fun h135 e135 => ?_)
      obtain ⟨f135, n1, L1, e1, e2⟩ := e135
      have Ca := C.keep (f135 0 (by omega)) (f135 1 (by omega))
      have Lsa := Ls.kp (fun x h1 h2 => f135 x (by omega))
      obtain ⟨C0, C1, C2, C3, C4, C5, C6, C7, C8, C9, g, gA, gB⟩ := id Ca
      obtain ⟨LA, hwa⟩ := Lsa a ha
      obtain ⟨LB, hwb⟩ := Lsa b hb
      have hoA := LA.ob
      have hoL := L1.ob
      refine x_aload_n (pc := 138) dX6_beside_138 rfl ?_
      refine x_gf (pc := 139) dX6_beside_139 fX6_36 (by assumption) (by omega) ?_
      refine x_aload_n (pc := 142) dX6_beside_142 rfl ?_
      refine x_gf (pc := 143) dX6_beside_143 fX6_31 (by assumption) (by omega) ?_
      refine x_iload_n (pc := 146) dX6_beside_146 rfl ?_
      refine x_al (pc := 147) dX6_beside_147 (by assumption) (by omega) rfl (by omega) (gB b hb) ?_
      refine x_iload (pc := 148) dX6_beside_148 rfl ?_
      refine x_aload_n (pc := 150) dX6_beside_150 rfl ?_
      refine x_gf (pc := 151) dX6_beside_151 fX6_31 (by assumption) (by omega) ?_
      refine x_iload_n (pc := 154) dX6_beside_154 rfl ?_
      refine x_al (pc := 155) dX6_beside_155 (by assumption) (by omega) rfl (by omega) (gB a ha) ?_
      refine x_iload (pc := 156) dX6_beside_156 rfl ?_
      refine x_w1 (pc := 158) dX6_beside_158 wX0_rowsOf iX0_rowsOf kX6_138 (by decide) rfl (Nat.le_of_ble_eq_true rfl) hoA (by omega) (t_rowsOf LA (by omega) (k := k) (by omega) hwa) ?_
      rw [eta, (szc_8 hS ha (ta (Lw (W a)) k) (by omega)).1]
      refine x_aload_n (pc := 161) dX6_beside_161 rfl ?_
      refine x_gf (pc := 162) dX6_beside_162 fX6_31 (by assumption) (by omega) ?_
      refine x_iload_n (pc := 165) dX6_beside_165 rfl ?_
      refine x_al (pc := 166) dX6_beside_166 (by assumption) (by omega) rfl (by omega) (gB a ha) ?_
      refine x_iload (pc := 167) dX6_beside_167 rfl ?_
      refine x_w1 (pc := 169) dX6_beside_169 wX0_columnsOf iX0_columnsOf kX6_141 (by decide) rfl (Nat.le_of_ble_eq_true rfl) hoA (by omega) (t_columnsOf LA (by omega) (k := k) (by omega) hwa) ?_
      rw [eso, (szc_8 hS ha (so (Lw (W a)) k) (by omega)).1]
      refine x_p4 (pc := 172) dX6_beside_172 wX0_putTable iX0_putTable kX6_134 (by decide) rfl (Nat.le_of_ble_eq_true rfl) hoL (by omega) (t_putTable L1 (by omega) (top := szc S a (ta (Lw (W a)) k)) (left := szc S a (so (Lw (W a)) k)) (R := szc S b (ta (Lw (W a)) k)) (C := szc S b (so (Lw (W a)) k)) LB (by omega) (by omega) (by omega) hwb (by rw [← hab, eta]; exact (szc_8 hS hb _ (by omega)).1) (by rw [← hab, eso]; exact (szc_8 hS hb _ (by omega)).1) hft hfs) (fun h172 e172 => ?_)
      obtain ⟨f172, n2, L2, e3, e4⟩ := e172
      refine x_iinc (pc := 175) dX6_beside_175 rfl (by decide) rfl ?_
      show Ex _ _ _ _ _ _ [_, _, _, _, _] _ _ _ _
      refine x_goto (pc := 178) (tgt := 110) dX6_beside_178 (by decide) ?_
      exact ih _ n2 (Ca.keep (f172 0 (by omega)) (f172 1 (by omega))) (Lsa.kp (fun x h1 h2 => f172 x (by omega))) L2 (bes_step (by omega) hft hfs hn e1 e2 e3 e4) (fun h n3 c1 l1 ll f1 => hq h n3 c1 l1 ll ((f135.tr f172).tr f1))

set_option maxRecDepth 4000 in
theorem t_beside6 {G : GL} {d : Nat} {hp : HP} {sz p N : Nat} (C : ClsA hp p N) (hz : 92 ≤ sz) (hN : 1 ≤ N ∧ N ≤ 8) {S T : Nat → Nat → Int} {W : Nat → Nat} (Ls : LysA hp S T W) (hS : inS S) (sp : ∃ s n w, Lay hp 26 s n w) {x : Int} (hx : -2147483648 ≤ x ∧ x < 2147483648) {y : Int} (hy : -2147483648 ≤ y ∧ y < 2147483648) {z : Int} (hz1 : -2147483648 ≤ z ∧ z < 2147483648) : Ct G (d + 4) 0 0 mX6_beside [vr 0, vi x, vi y, vi z] hp sz (Vs (fun v h => ((0 ≤ x ∧ x < 8 ∧ 0 ≤ y ∧ y < 8 ∧ 0 ≤ z ∧ z < 8 ∧ W x.toNat = W y.toNat ∧ ∀ j, j < N → S x.toNat j + S y.toNat j ≤ 4) ∧ v = vi 1 ∧ ClsA h p N ∧ Fr hp h 2 28 ∧ (∃ s n w, Lay h 26 s n w) ∧ ∃ s3 n3, LysA h (up S z.toNat s3) (up T z.toNat n3) (up W z.toNat (W x.toNat)) ∧ (∀ j, j < 8 → s3 j = if j < N then S x.toNat j + S y.toNat j else 0) ∧ ∀ i, i < 112 → n3 i = besT N (Lw (W x.toNat)) (szc S x.toNat) (szc S y.toNat) (T x.toNat) (T y.toNat) i) ∨ ((¬ (0 ≤ x ∧ x < 8 ∧ 0 ≤ y ∧ y < 8 ∧ 0 ≤ z ∧ z < 8 ∧ W x.toNat = W y.toNat ∧ ∀ j, j < N → S x.toNat j + S y.toNat j ≤ 4)) ∧ v = vi 0 ∧ h = hp)) sz) := by
  show Ex _ _ _ _ _ _ [vr 0, vi x, vi y, vi z, vu] _ _ _ _
  obtain ⟨s26, n26, w26, L26⟩ := sp
  obtain ⟨C0, C1, C2, C3, C4, C5, C6, C7, C8, C9, g, gA, gB⟩ := id C
  have hob := C0.ob
  refine x_aload_n (pc := 0) dX6_beside_0 rfl ?_
  refine x_iload_n (pc := 1) dX6_beside_1 rfl ?_
  refine x_w1 (pc := 2) dX6_beside_2 wX6_isLaying iX6_isLaying kX6_82 (by decide) rfl (Nat.le_of_ble_eq_true rfl) (by assumption) (by omega) (t_isLaying C hz hN hz1) ?_
  refine x_if_eq (pc := 5) (tgt := 36) dX6_beside_5 (by decide) (bz_rg _) (fun c5 => ?_) (fun c5 => ?_)
  · have d1 := bz_e c5
    refine x_iconst (pc := 36) dX6_beside_36 ?_
    refine x_zret (pc := 37) dX6_beside_37 rfl (Or.inl rfl) (by first | exact ⟨_, rfl, rfl, Or.inr ⟨fun q => by omega, rfl, rfl⟩⟩ | exact ⟨_, rfl, rfl, Or.inr ⟨fun q => absurd ⟨q.1, q.2.1, q.2.2.1, q.2.2.2.1, q.2.2.2.2.2.2.1⟩ d2, rfl, rfl⟩⟩ | exact ⟨_, rfl, rfl, Or.inr ⟨fun q => hnf (hrb.mpr q.2.2.2.2.2.2.2), rfl, rfl⟩⟩)
  · have d1 := bz_n c5
    refine x_aload_n (pc := 8) dX6_beside_8 rfl ?_
    refine x_iload_n (pc := 9) dX6_beside_9 rfl ?_
    refine x_iload_n (pc := 10) dX6_beside_10 rfl ?_
    refine x_w2 (pc := 11) dX6_beside_11 wX6_haveSameWays iX6_haveSameWays kX6_127 (by decide) rfl (Nat.le_of_ble_eq_true rfl) (by assumption) (by omega) (t_haveSame C hz hN Ls hx hy) ?_
    refine x_if_eq (pc := 14) (tgt := 36) dX6_beside_14 (by decide) (bz_rg _) (fun c14 => ?_) (fun c14 => ?_)
    · have d2 := bz_e c14
      refine x_iconst (pc := 36) dX6_beside_36 ?_
      refine x_zret (pc := 37) dX6_beside_37 rfl (Or.inl rfl) (by first | exact ⟨_, rfl, rfl, Or.inr ⟨fun q => by omega, rfl, rfl⟩⟩ | exact ⟨_, rfl, rfl, Or.inr ⟨fun q => absurd ⟨q.1, q.2.1, q.2.2.1, q.2.2.2.1, q.2.2.2.2.2.2.1⟩ d2, rfl, rfl⟩⟩ | exact ⟨_, rfl, rfl, Or.inr ⟨fun q => hnf (hrb.mpr q.2.2.2.2.2.2.2), rfl, rfl⟩⟩)
    · have d2 := bz_n c14
      obtain ⟨t, rfl⟩ : ∃ l : Nat, z = (l : Int) := ⟨z.toNat, by omega⟩
      obtain ⟨a, rfl⟩ : ∃ l : Nat, x = (l : Int) := ⟨x.toNat, by omega⟩
      obtain ⟨b, rfl⟩ : ∃ l : Nat, y = (l : Int) := ⟨y.toNat, by omega⟩
      simp only [Int.toNat_natCast] at d2 ⊢
      have ha : a < 8 := by omega
      have hb : b < 8 := by omega
      obtain ⟨LA, hwa⟩ := Ls a ha
      obtain ⟨LB, hwb⟩ := Ls b hb
      obtain ⟨P1, P2, P3, P4, P5⟩ := id LA
      refine x_aload_n (pc := 17) dX6_beside_17 rfl ?_
      refine x_aload_n (pc := 18) dX6_beside_18 rfl ?_
      refine x_gf (pc := 19) dX6_beside_19 fX6_31 (by assumption) (by omega) ?_
      refine x_iload_n (pc := 22) dX6_beside_22 rfl ?_
      refine x_al (pc := 23) dX6_beside_23 (by assumption) (by omega) rfl (by omega) (gB a ha) ?_
      refine x_aload_n (pc := 24) dX6_beside_24 rfl ?_
      refine x_gf (pc := 25) dX6_beside_25 fX6_31 (by assumption) (by omega) ?_
      refine x_iload_n (pc := 28) dX6_beside_28 rfl ?_
      refine x_al (pc := 29) dX6_beside_29 (by assumption) (by omega) rfl (by omega) (gB b hb) ?_
      refine x_y2 (pc := 30) dX6_beside_30 wX6_fitBeside iX6_fitBeside kX6_130 (by decide) rfl (Nat.le_of_ble_eq_true rfl) (by assumption) (by omega) (t_fit C hz hN LA LB (by omega) (by omega) (fun j hj => ⟨(hS a j ha hj).1, (hS a j ha hj).2, (hS b j hb hj).1, (hS b j hb hj).2⟩)) (fun v30 h30 e30 => ?_)
      obtain ⟨rfl, rb, rfl, hrb⟩ := e30
      refine x_if_ne (pc := 33) (tgt := 38) dX6_beside_33 (by decide) (bz_rg _) (fun c33 => ?_) (fun c33 => ?_)
      · have hfit := hrb.mp (by cases rb; exact absurd rfl c33; rfl)
        refine x_aload_n (pc := 38) dX6_beside_38 rfl ?_
        refine x_gf (pc := 39) dX6_beside_39 fX6_36 (by assumption) (by omega) ?_
        refine x_aload_n (pc := 42) dX6_beside_42 rfl ?_
        refine x_gf (pc := 43) dX6_beside_43 fX6_31 (by assumption) (by omega) ?_
        refine x_iload_n (pc := 46) dX6_beside_46 rfl ?_
        refine x_al (pc := 47) dX6_beside_47 (by assumption) (by omega) rfl (by omega) (gB a ha) ?_
        refine x_gn (pc := 48) dX6_beside_48 fX6_120 (by assumption) (by omega) ?_
        refine x_p1 (pc := 51) dX6_beside_51 wX0_empty iX0_empty kX6_92 (by decide) rfl (Nat.le_of_ble_eq_true rfl) L26.ob (by omega) (t_empty (x := W a) L26 (by omega)) (fun h51 e51 => ?_)
        obtain ⟨f51, s5, n5, L5, z1, z2⟩ := e51
        have Ca := C.keep (f51 0 (by omega)) (f51 1 (by omega))
        have Lsa := Ls.kp (fun x h1 h2 => f51 x (by omega))
        refine x_iconst (pc := 54) dX6_beside_54 ?_
        refine x_istore (pc := 55) dX6_beside_55 (by decide) rfl ?_
        show Ex _ _ _ _ _ _ [_, _, _, _, _] _ _ _ _
        refine k_bes1 (d := d) hz hN ha hb hS d2.2.2.2.2 hfit 0 (by omega) h51 s5 Ca Lsa L5 (fun j hj => by rw [if_neg (by omega)]; exact z1 j hj) (fun h2 s6 C6 Ls6 L6 f6 e6 => ?_)
        refine x_iconst (pc := 107) dX6_beside_107 ?_
        refine x_istore (pc := 108) dX6_beside_108 (by decide) rfl ?_
        show Ex _ _ _ _ _ _ [_, _, _, _, _] _ _ _ _
        refine k_bes2 (d := d) hz hN ha hb hS d2.2.2.2.2 hfit 0 (by omega) h2 n5 C6 Ls6 L6 (fun x hx => by rw [if_neg (by omega)]; exact z2 x hx) (fun h3 n7 C7 Ls7 L7 f7 e7 => ?_)
        obtain ⟨D0, D1, D2, D3, D4, D5, D6, D7, D8, D9, g9, gA9, gB9⟩ := id C7
        have hoT := (Ls7 t (by omega)).1.ob
        refine x_aload_n (pc := 181) dX6_beside_181 rfl ?_
        refine x_gf (pc := 182) dX6_beside_182 fX6_31 (by assumption) (by omega) ?_
        refine x_iload_n (pc := 185) dX6_beside_185 rfl ?_
        refine x_al (pc := 186) dX6_beside_186 (by assumption) (by omega) rfl (by omega) (gB9 t (by omega)) ?_
        refine x_aload_n (pc := 187) dX6_beside_187 rfl ?_
        refine x_gf (pc := 188) dX6_beside_188 fX6_36 (by assumption) (by omega) ?_
        refine x_p1 (pc := 191) dX6_beside_191 wX0_copy iX0_copy kX6_144 (by decide) rfl (Nat.le_of_ble_eq_true rfl) hoT (by omega) (t_copy (Ls7 t (by omega)).1 (by omega) L7 (by omega) (by omega)) (fun h191 e191 => ?_)
        obtain ⟨f8, s8, n8, L8, z3, z4⟩ := e191
        refine x_iconst (pc := 194) dX6_beside_194 ?_
        refine x_zret (pc := 195) dX6_beside_195 rfl (Or.inr rfl) ⟨_, rfl, rfl, Or.inl ⟨⟨by omega, by omega, by omega, by omega, by omega, by omega, d2.2.2.2.2, hfit⟩, rfl, C7.keep (f8 0 (by omega)) (f8 1 (by omega)), fun x hx => (f8 x (by omega)).trans ((f7 x (by omega)).trans ((f6 x (by omega)).trans (f51 x (by omega)))), ⟨_, _, _, L7.keep (fun x h1 h2 => f8 x (by omega))⟩, s8, n8, Ls7.one (by omega) f8 L8 hwa, fun j hj => (z3 j hj).trans (e6 j hj), fun x hx => by
          rw [z4 x hx, e7 x hx]
          by_cases l : x / 16 < N - 1
          · rw [if_pos l]
          · rw [if_neg l]
            unfold besT
            rw [if_neg (by omega)]⟩⟩
      · have hnf : ¬ rb = true := fun q => by rw [q] at c33; exact absurd c33 (by decide)
        refine x_iconst (pc := 36) dX6_beside_36 ?_
        refine x_zret (pc := 37) dX6_beside_37 rfl (Or.inl rfl) (by first | exact ⟨_, rfl, rfl, Or.inr ⟨fun q => by omega, rfl, rfl⟩⟩ | exact ⟨_, rfl, rfl, Or.inr ⟨fun q => absurd ⟨q.1, q.2.1, q.2.2.1, q.2.2.2.1, q.2.2.2.2.2.2.1⟩ d2, rfl, rfl⟩⟩ | exact ⟨_, rfl, rfl, Or.inr ⟨fun q => hnf (hrb.mpr q.2.2.2.2.2.2.2), rfl, rfl⟩⟩)

/-- what mixing does to the table of arrow k -/
def mixStep (p N w : Nat) (s : Nat → Int) (k : Nat) (post i j : Nat) (c : Int) (n n' : Nat → Int) : Prop :=
  if k < N - 1 then (if (if w.testBit k then k else k + 1) = post then rowRel p k i j (s (if w.testBit k then k + 1 else k)).toNat c n n' else colRel p k j i (s (if w.testBit k then k else k + 1)).toNat (p - c) n n') else n' = n
theorem rowRel.inL {p k i j C : Nat} {c : Int} {n n' : Nat → Int} (h : rowRel p k i j C c n n') (hn : inL n p) (hp : 0 < p) : inL n' p := by
  intro x hx
  by_cases e : ∃ q, q < C ∧ x = k * 16 + i * 4 + q
  · obtain ⟨q, hq, rfl⟩ := e
    rw [h.1 q hq]
    exact emod_rg hp
  · rw [h.2 x (fun q hq z => e ⟨q, hq, z⟩)]
    exact hn x hx
theorem colRel.inL {p k i j C : Nat} {c : Int} {n n' : Nat → Int} (h : colRel p k i j C c n n') (hn : inL n p) (hp : 0 < p) : inL n' p := by
  intro x hx
  by_cases e : ∃ q, q < C ∧ x = k * 16 + q * 4 + i
  · obtain ⟨q, hq, rfl⟩ := e
    rw [h.1 q hq]
    exact emod_rg hp
  · rw [h.2 x (fun q hq z => e ⟨q, hq, z⟩)]
    exact hn x hx
theorem mixStep.inL {p N w k post i j : Nat} {s : Nat → Int} {c : Int} {n n' : Nat → Int} (h : mixStep p N w s k post i j c n n') (hn : inL n p) (hp : 0 < p) : inL n' p := by
  unfold mixStep at h
  by_cases e1 : k < N - 1
  · rw [if_pos e1] at h
    by_cases e2 : (if w.testBit k then k else k + 1) = post
    · rw [if_pos e2] at h
      exact rowRel.inL h hn hp
    · rw [if_neg e2] at h
      exact colRel.inL h hn hp
  · rw [if_neg e1] at h
    rw [h]; exact hn

theorem l_mixk {G : GL} {d : Nat} {sz : Nat} {p N : Nat} (hz : 92 ≤ sz) (hN : 1 ≤ N ∧ N ≤ 8) (hP : isP p) {l t i j a w : Nat} (ha : 2 ≤ a ∧ a ≤ 26) (ht : t < N) (hi : i < 4) (hj : j < 4) (hij : i ≠ j) {s : Nat → Int} (hs : ∀ x, x < 8 → 0 ≤ s x ∧ s x ≤ 4) (hw : w < 128) {c : Int} (hc : 0 ≤ c ∧ c < p) {Q : Option AV → HP → Nat → Prop} {hp : HP} {n : Nat → Int} (Cl : ClsA hp p N) (L : Lay hp a s n w) (hn : inL n p) {k : Nat} (hk : k < 8) (hq : ∀ h n1, ClsA h p N → Lay h a s n1 w → Fr hp h a (a + 2) → mixStep p N w s k t i j c n n1 → Ex G (d + 4) 0 0 mX6_mix 151 [vr 0, vi l, vi t, vi i, vi j, vi c, vr a, vi k] [] h sz Q) : Ex G (d + 4) 0 0 mX6_mix 88 [vr 0, vi l, vi t, vi i, vi j, vi c, vr a, vi k] [] hp sz Q := by
  have hob := Cl.1.ob
  have hoL := L.ob
  have C0 := Cl.1
  have hpl := hP.le
  refine x_aload_n (pc := 88) dX6_mix_88 rfl ?_
  refine x_iload (pc := 89) dX6_mix_89 rfl ?_
  refine x_w1 (pc := 91) dX6_mix_91 wX6_isArrow iX6_isArrow kX6_151 (by decide) rfl (Nat.le_of_ble_eq_true rfl) (by assumption) (by omega) (t_isArrow Cl hz hN (by omega)) ?_
  refine x_if_eq (pc := 94) (tgt := 124) dX6_mix_94 (by decide) (bz_rg _) (fun c94 => ?_) (fun c94 => ?_)
  · have d1 := bz_e c94
    refine x_aload_n (pc := 124) dX6_mix_124 rfl ?_
    refine x_iload (pc := 125) dX6_mix_125 rfl ?_
    refine x_w1 (pc := 127) dX6_mix_127 wX6_isArrow iX6_isArrow kX6_151 (by decide) rfl (Nat.le_of_ble_eq_true rfl) (by assumption) (by omega) (t_isArrow Cl hz hN (by omega)) ?_
    refine x_if_eq (pc := 130) (tgt := 151) dX6_mix_130 (by decide) (bz_rg _) (fun c130 => ?_) (fun c130 => ?_)
    · have d2 := bz_e c130
      first
        | exact hq _ n1 (Cl.keep (f9 0 (by omega)) (f9 1 (by omega))) L1 f9 (by unfold mixStep; rw [if_pos (by omega), if_pos (by omega)]; exact r1)
        | exact hq _ n1 (Cl.keep (f9 0 (by omega)) (f9 1 (by omega))) L1 f9 (by unfold mixStep; rw [if_pos (by omega), if_neg (by omega)]; exact r1)
        | exact hq hp n Cl L Fr.rf (by unfold mixStep; rw [if_neg (by omega)])
        | exact absurd d1 (by omega)
    · have d2 := bz_n c130
      refine x_aload_n (pc := 133) dX6_mix_133 rfl ?_
      refine x_aload (pc := 134) dX6_mix_134 rfl ?_
      refine x_iload (pc := 136) dX6_mix_136 rfl ?_
      refine x_iload (pc := 138) dX6_mix_138 rfl ?_
      refine x_iload_n (pc := 140) dX6_mix_140 rfl ?_
      refine x_aload_n (pc := 141) dX6_mix_141 rfl ?_
      refine x_gf (pc := 142) dX6_mix_142 fX6_13 (by assumption) (by omega) ?_
      refine x_iload (pc := 145) dX6_mix_145 rfl ?_
      refine x_isub (pc := 147) dX6_mix_147 ?_
      refine x_p5 (pc := 148) dX6_mix_148 wX6_addColumn iX6_addColumn kX6_161 (by decide) rfl (Nat.le_of_ble_eq_true rfl) (by assumption) (by omega) (t_addColumn Cl hz ha (by omega) hj hi (Ne.symm hij) hP (by omega) L hw (C := (s (if w.testBit k then k else k + 1)).toNat) (by have := hs (if w.testBit k then k else k + 1) (by split <;> omega); omega) (by have := hs (if w.testBit k then k else k + 1) (by split <;> omega); omega) hn) (fun h148 e148 => ?_)
      obtain ⟨f9, n1, L1, r1⟩ := e148
      first
        | exact hq _ n1 (Cl.keep (f9 0 (by omega)) (f9 1 (by omega))) L1 f9 (by unfold mixStep; rw [if_pos (by omega), if_pos (by omega)]; exact r1)
        | exact hq _ n1 (Cl.keep (f9 0 (by omega)) (f9 1 (by omega))) L1 f9 (by unfold mixStep; rw [if_pos (by omega), if_neg (by omega)]; exact r1)
        | exact hq hp n Cl L Fr.rf (by unfold mixStep; rw [if_neg (by omega)])
        | exact absurd d1 (by omega)
  · have d1 := bz_n c94
    refine x_aload (pc := 97) dX6_mix_97 rfl ?_
    refine x_iload (pc := 99) dX6_mix_99 rfl ?_
    refine x_w1 (pc := 101) dX6_mix_101 wX0_target iX0_target kX6_154 (by decide) rfl (Nat.le_of_ble_eq_true rfl) (by assumption) (by omega) (t_target L (by omega) (k := k) (by omega) hw) ?_
    refine x_iload_n (pc := 104) dX6_mix_104 rfl ?_
    refine x_icmp_ne (pc := 105) (tgt := 124) dX6_mix_105 (by decide) (by split <;> omega) (by omega) (fun c105 => ?_) (fun c105 => ?_)
    · refine x_aload_n (pc := 124) dX6_mix_124 rfl ?_
      refine x_iload (pc := 125) dX6_mix_125 rfl ?_
      refine x_w1 (pc := 127) dX6_mix_127 wX6_isArrow iX6_isArrow kX6_151 (by decide) rfl (Nat.le_of_ble_eq_true rfl) (by assumption) (by omega) (t_isArrow Cl hz hN (by omega)) ?_
      refine x_if_eq (pc := 130) (tgt := 151) dX6_mix_130 (by decide) (bz_rg _) (fun c130 => ?_) (fun c130 => ?_)
      · have d2 := bz_e c130
        first
          | exact hq _ n1 (Cl.keep (f9 0 (by omega)) (f9 1 (by omega))) L1 f9 (by unfold mixStep; rw [if_pos (by omega), if_pos (by omega)]; exact r1)
          | exact hq _ n1 (Cl.keep (f9 0 (by omega)) (f9 1 (by omega))) L1 f9 (by unfold mixStep; rw [if_pos (by omega), if_neg (by omega)]; exact r1)
          | exact hq hp n Cl L Fr.rf (by unfold mixStep; rw [if_neg (by omega)])
          | exact absurd d1 (by omega)
      · have d2 := bz_n c130
        refine x_aload_n (pc := 133) dX6_mix_133 rfl ?_
        refine x_aload (pc := 134) dX6_mix_134 rfl ?_
        refine x_iload (pc := 136) dX6_mix_136 rfl ?_
        refine x_iload (pc := 138) dX6_mix_138 rfl ?_
        refine x_iload_n (pc := 140) dX6_mix_140 rfl ?_
        refine x_aload_n (pc := 141) dX6_mix_141 rfl ?_
        refine x_gf (pc := 142) dX6_mix_142 fX6_13 (by assumption) (by omega) ?_
        refine x_iload (pc := 145) dX6_mix_145 rfl ?_
        refine x_isub (pc := 147) dX6_mix_147 ?_
        refine x_p5 (pc := 148) dX6_mix_148 wX6_addColumn iX6_addColumn kX6_161 (by decide) rfl (Nat.le_of_ble_eq_true rfl) (by assumption) (by omega) (t_addColumn Cl hz ha (by omega) hj hi (Ne.symm hij) hP (by omega) L hw (C := (s (if w.testBit k then k else k + 1)).toNat) (by have := hs (if w.testBit k then k else k + 1) (by split <;> omega); omega) (by have := hs (if w.testBit k then k else k + 1) (by split <;> omega); omega) hn) (fun h148 e148 => ?_)
        obtain ⟨f9, n1, L1, r1⟩ := e148
        first
          | exact hq _ n1 (Cl.keep (f9 0 (by omega)) (f9 1 (by omega))) L1 f9 (by unfold mixStep; rw [if_pos (by omega), if_pos (by omega)]; exact r1)
          | exact hq _ n1 (Cl.keep (f9 0 (by omega)) (f9 1 (by omega))) L1 f9 (by unfold mixStep; rw [if_pos (by omega), if_neg (by omega)]; exact r1)
          | exact hq hp n Cl L Fr.rf (by unfold mixStep; rw [if_neg (by omega)])
          | exact absurd d1 (by omega)
    · refine x_aload_n (pc := 108) dX6_mix_108 rfl ?_
      refine x_aload (pc := 109) dX6_mix_109 rfl ?_
      refine x_iload (pc := 111) dX6_mix_111 rfl ?_
      refine x_iload_n (pc := 113) dX6_mix_113 rfl ?_
      refine x_iload (pc := 114) dX6_mix_114 rfl ?_
      refine x_iload (pc := 116) dX6_mix_116 rfl ?_
      refine x_p5 (pc := 118) dX6_mix_118 wX6_addRow iX6_addRow kX6_157 (by decide) rfl (Nat.le_of_ble_eq_true rfl) (by assumption) (by omega) (t_addRow Cl hz ha (by omega) hi hj hij hP (by omega) L hw (C := (s (if w.testBit k then k + 1 else k)).toNat) (by have := hs (if w.testBit k then k + 1 else k) (by split <;> omega); omega) (by have := hs (if w.testBit k then k + 1 else k) (by split <;> omega); omega) hn) (fun h118 e118 => ?_)
      obtain ⟨f9, n1, L1, r1⟩ := e118
      refine x_goto (pc := 121) (tgt := 151) dX6_mix_121 (by decide) ?_
      first
        | exact hq _ n1 (Cl.keep (f9 0 (by omega)) (f9 1 (by omega))) L1 f9 (by unfold mixStep; rw [if_pos (by omega), if_pos (by omega)]; exact r1)
        | exact hq _ n1 (Cl.keep (f9 0 (by omega)) (f9 1 (by omega))) L1 f9 (by unfold mixStep; rw [if_pos (by omega), if_neg (by omega)]; exact r1)
        | exact hq hp n Cl L Fr.rf (by unfold mixStep; rw [if_neg (by omega)])
        | exact absurd d1 (by omega)

theorem l_mixB {G : GL} {d : Nat} {sz : Nat} {p N : Nat} (hz : 92 ≤ sz) (hN : 1 ≤ N ∧ N ≤ 8) (hP : isP p) {l t i j a w : Nat} (ha : 2 ≤ a ∧ a ≤ 26) (ht : t < N) (hi : i < 4) (hj : j < 4) (hij : i ≠ j) {s : Nat → Int} (hs : ∀ x, x < 8 → 0 ≤ s x ∧ s x ≤ 4) (hw : w < 128) {c : Int} (hc : 0 ≤ c ∧ c < p) {Q : Option AV → HP → Nat → Prop} {hp : HP} {n : Nat → Int} (Cl : ClsA hp p N) (L : Lay hp a s n w) (hn : inL n p) (hq : ∀ h n1, ClsA h p N → Lay h a s n1 w → Fr hp h a (a + 2) → mixStep p N w s t t i j c n n1 → Q (some (vi 1)) h sz) : Ex G (d + 4) 0 0 mX6_mix 82 [vr 0, vi l, vi t, vi i, vi j, vi c, vr a, vi t] [] hp sz Q := by
  refine x_iload (pc := 82) dX6_mix_82 rfl ?_
  refine x_iload_n (pc := 84) dX6_mix_84 rfl ?_
  refine x_icmp_gt (pc := 85) (tgt := 157) dX6_mix_85 (by decide) (by omega) (by omega) (fun c85 => ?_) (fun c85 => ?_)
  · exact absurd c85 (by omega)
  · refine l_mixk hz hN hP ha ht hi hj hij hs hw hc Cl L hn (by omega) (fun h n1 C1 l1 f1 m1 => ?_)
    refine x_iinc (pc := 151) dX6_mix_151 rfl (by decide) rfl ?_
    show Ex _ _ _ _ _ _ [_, _, _, _, _, _, _, _] _ _ _ _
    refine x_goto (pc := 154) (tgt := 82) dX6_mix_154 (by decide) ?_
    refine x_iload (pc := 82) dX6_mix_82 rfl ?_
    refine x_iload_n (pc := 84) dX6_mix_84 rfl ?_
    refine x_icmp_gt (pc := 85) (tgt := 157) dX6_mix_85 (by decide) (by omega) (by omega) (fun c85 => ?_) (fun c85 => ?_)
    · refine x_iconst (pc := 157) dX6_mix_157 ?_
      refine x_zret (pc := 158) dX6_mix_158 rfl (Or.inr rfl) (hq h n1 C1 l1 f1 m1)
    · exact absurd c85 (by omega)

theorem l_mixA {G : GL} {d : Nat} {sz : Nat} {p N : Nat} (hz : 92 ≤ sz) (hN : 1 ≤ N ∧ N ≤ 8) (hP : isP p) {l t i j a w : Nat} (ha : 2 ≤ a ∧ a ≤ 26) (ht : t < N) (hi : i < 4) (hj : j < 4) (hij : i ≠ j) {s : Nat → Int} (hs : ∀ x, x < 8 → 0 ≤ s x ∧ s x ≤ 4) (hw : w < 128) {c : Int} (hc : 0 ≤ c ∧ c < p) {Q : Option AV → HP → Nat → Prop} {hp : HP} {n : Nat → Int} (Cl : ClsA hp p N) (L : Lay hp a s n w) (hn : inL n p) (hq : ∀ h n2, ClsA h p N → Lay h a s n2 w → Fr hp h a (a + 2) → (∃ n1, (if 0 < t then mixStep p N w s (t - 1) t i j c n n1 else n1 = n) ∧ mixStep p N w s t t i j c n1 n2) → Q (some (vi 1)) h sz) : Ex G (d + 4) 0 0 mX6_mix 82 [vr 0, vi l, vi t, vi i, vi j, vi c, vr a, vi ((t : Int) - 1)] [] hp sz Q := by
  have hpl := hP.le
  have hob := Cl.1.ob
  have hoL := L.ob
  by_cases t0 : 0 < t
  · refine x_iload (pc := 82) dX6_mix_82 rfl ?_
    refine x_iload_n (pc := 84) dX6_mix_84 rfl ?_
    refine x_icmp_gt (pc := 85) (tgt := 157) dX6_mix_85 (by decide) (by omega) (by omega) (fun c85 => ?_) (fun c85 => ?_)
    · exact absurd c85 (by omega)
    · rw [show (t : Int) - 1 = ((t - 1 : Nat) : Int) by omega]
      refine l_mixk hz hN hP ha ht hi hj hij hs hw hc Cl L hn (by omega) (fun h n1 C1 l1 f1 m1 => ?_)
      refine x_iinc (pc := 151) dX6_mix_151 rfl (by decide) rfl ?_
      show Ex _ _ _ _ _ _ [_, _, _, _, _, _, _, _] _ _ _ _
      refine x_goto (pc := 154) (tgt := 82) dX6_mix_154 (by decide) ?_
      rw [show ((t - 1 : Nat) : Int) + 1 = (t : Int) by omega]
      exact l_mixB hz hN hP ha ht hi hj hij hs hw hc C1 l1 (m1.inL hn (by omega)) (fun h2 n2 C2 l2 f2 m2 => hq h2 n2 C2 l2 (f1.tr f2) ⟨n1, by rw [if_pos t0]; exact m1, m2⟩)
  · refine x_iload (pc := 82) dX6_mix_82 rfl ?_
    refine x_iload_n (pc := 84) dX6_mix_84 rfl ?_
    refine x_icmp_gt (pc := 85) (tgt := 157) dX6_mix_85 (by decide) (by omega) (by omega) (fun c85 => ?_) (fun c85 => ?_)
    · exact absurd c85 (by omega)
    · refine x_aload_n (pc := 88) dX6_mix_88 rfl ?_
      refine x_iload (pc := 89) dX6_mix_89 rfl ?_
      refine x_w1 (pc := 91) dX6_mix_91 wX6_isArrow iX6_isArrow kX6_151 (by decide) rfl (Nat.le_of_ble_eq_true rfl) (by assumption) (by omega) (t_isArrow Cl hz hN (by omega)) ?_
      refine x_if_eq (pc := 94) (tgt := 124) dX6_mix_94 (by decide) (bz_rg _) (fun c94 => ?_) (fun c94 => ?_)
      · refine x_aload_n (pc := 124) dX6_mix_124 rfl ?_
        refine x_iload (pc := 125) dX6_mix_125 rfl ?_
        refine x_w1 (pc := 127) dX6_mix_127 wX6_isArrow iX6_isArrow kX6_151 (by decide) rfl (Nat.le_of_ble_eq_true rfl) (by assumption) (by omega) (t_isArrow Cl hz hN (by omega)) ?_
        refine x_if_eq (pc := 130) (tgt := 151) dX6_mix_130 (by decide) (bz_rg _) (fun c130 => ?_) (fun c130 => ?_)
        · refine x_iinc (pc := 151) dX6_mix_151 rfl (by decide) rfl ?_
          show Ex _ _ _ _ _ _ [_, _, _, _, _, _, _, _] _ _ _ _
          refine x_goto (pc := 154) (tgt := 82) dX6_mix_154 (by decide) ?_
          rw [show ((t : Int) - 1) + 1 = (t : Int) by omega]
          exact l_mixB hz hN hP ha ht hi hj hij hs hw hc Cl L hn (fun h2 n2 C2 l2 f2 m2 => hq h2 n2 C2 l2 f2 ⟨n, by rw [if_neg t0], m2⟩)
        · exact absurd (bz_n c130) (by omega)
      · exact absurd (bz_n c94) (by omega)

set_option maxRecDepth 4000 in
theorem t_mix6 {G : GL} {d : Nat} {hp : HP} {sz : Nat} {p N : Nat} (C : ClsA hp p N) (hz : 92 ≤ sz) (hN : 1 ≤ N ∧ N ≤ 8) (hP : isP p) {S T : Nat → Nat → Int} {W : Nat → Nat} (Ls : LysA hp S T W) (hS : inS S) (hT : ∀ l, l < 8 → inL (T l) p) {x : Int} (hx : -2147483648 ≤ x ∧ x < 2147483648) {y : Int} (hy : -2147483648 ≤ y ∧ y < 2147483648) {u : Int} (hu : -2147483648 ≤ u ∧ u < 2147483648) {v : Int} (hv : -2147483648 ≤ v ∧ v < 2147483648) {z : Int} (hz1 : -2147483648 ≤ z ∧ z < 2147483648) : Ct G (d + 4) 0 0 mX6_mix [vr 0, vi x, vi y, vi u, vi v, vi z] hp sz (Vs (fun r h => ((0 ≤ x ∧ x < 8 ∧ 0 ≤ y ∧ y < N ∧ 0 ≤ u ∧ u < S x.toNat y.toNat ∧ 0 ≤ v ∧ v < S x.toNat y.toNat ∧ u ≠ v ∧ 0 ≤ z ∧ z < p) ∧ r = vi 1 ∧ ClsA h p N ∧ Fr hp h 2 28 ∧ ∃ n1 n2, LysA h S (up T x.toNat n2) W ∧ (if 0 < y.toNat then mixStep p N (W x.toNat) (S x.toNat) (y.toNat - 1) y.toNat u.toNat v.toNat z (T x.toNat) n1 else n1 = T x.toNat) ∧ mixStep p N (W x.toNat) (S x.toNat) y.toNat y.toNat u.toNat v.toNat z n1 n2) ∨ ((¬ (0 ≤ x ∧ x < 8 ∧ 0 ≤ y ∧ y < N ∧ 0 ≤ u ∧ u < S x.toNat y.toNat ∧ 0 ≤ v ∧ v < S x.toNat y.toNat ∧ u ≠ v ∧ 0 ≤ z ∧ z < p)) ∧ r = vi 0 ∧ h = hp)) sz) := by
  show Ex _ _ _ _ _ _ [vr 0, vi x, vi y, vi u, vi v, vi z, vu, vu] _ _ _ _
  obtain ⟨C0, C1, C2, C3, C4, C5, C6, C7, C8, C9, g, gA, gB⟩ := id C
  have hob := C0.ob
  have hpl := hP.le
  refine x_aload_n (pc := 0) dX6_mix_0 rfl ?_
  refine x_iload_n (pc := 1) dX6_mix_1 rfl ?_
  refine x_w1 (pc := 2) dX6_mix_2 wX6_isLaying iX6_isLaying kX6_82 (by decide) rfl (Nat.le_of_ble_eq_true rfl) (by assumption) (by omega) (t_isLaying C hz hN hx) ?_
  refine x_if_eq (pc := 5) (tgt := 36) dX6_mix_5 (by decide) (bz_rg _) (fun c5 => ?_) (fun c5 => ?_)
  · have d1 := bz_e c5
    refine x_iconst (pc := 36) dX6_mix_36 ?_
    refine x_zret (pc := 37) dX6_mix_37 rfl (by omega) ⟨_, rfl, rfl, Or.inr ⟨fun h => by omega, rfl, rfl⟩⟩
  · have d1 := bz_n c5
    refine x_aload_n (pc := 8) dX6_mix_8 rfl ?_
    refine x_iload_n (pc := 9) dX6_mix_9 rfl ?_
    refine x_w1 (pc := 10) dX6_mix_10 wX6_isPost iX6_isPost kX6_117 (by decide) rfl (Nat.le_of_ble_eq_true rfl) (by assumption) (by omega) (t_isPost C hz hN hy) ?_
    refine x_if_eq (pc := 13) (tgt := 36) dX6_mix_13 (by decide) (bz_rg _) (fun c13 => ?_) (fun c13 => ?_)
    · have d2 := bz_e c13
      refine x_iconst (pc := 36) dX6_mix_36 ?_
      refine x_zret (pc := 37) dX6_mix_37 rfl (by omega) ⟨_, rfl, rfl, Or.inr ⟨fun h => by omega, rfl, rfl⟩⟩
    · have d2 := bz_n c13
      refine x_iload_n (pc := 16) dX6_mix_16 rfl ?_
      refine x_iload (pc := 17) dX6_mix_17 rfl ?_
      refine x_icmp_eq (pc := 19) (tgt := 36) dX6_mix_19 (by decide) (by omega) (by omega) (fun c19 => ?_) (fun c19 => ?_)
      · refine x_iconst (pc := 36) dX6_mix_36 ?_
        refine x_zret (pc := 37) dX6_mix_37 rfl (by omega) ⟨_, rfl, rfl, Or.inr ⟨fun h => by omega, rfl, rfl⟩⟩
      · refine x_iload (pc := 22) dX6_mix_22 rfl ?_
        refine x_if_lt (pc := 24) (tgt := 36) dX6_mix_24 (by decide) (by omega) (fun c24 => ?_) (fun c24 => ?_)
        · refine x_iconst (pc := 36) dX6_mix_36 ?_
          refine x_zret (pc := 37) dX6_mix_37 rfl (by omega) ⟨_, rfl, rfl, Or.inr ⟨fun h => by omega, rfl, rfl⟩⟩
        · refine x_iload (pc := 27) dX6_mix_27 rfl ?_
          refine x_aload_n (pc := 29) dX6_mix_29 rfl ?_
          refine x_gf (pc := 30) dX6_mix_30 fX6_13 (by assumption) (by omega) ?_
          refine x_icmp_lt (pc := 33) (tgt := 38) dX6_mix_33 (by decide) (by omega) (by omega) (fun c33 => ?_) (fun c33 => ?_)
          · refine x_aload_n (pc := 38) dX6_mix_38 rfl ?_
            refine x_gf (pc := 39) dX6_mix_39 fX6_31 (by assumption) (by omega) ?_
            refine x_iload_n (pc := 42) dX6_mix_42 rfl ?_
            have hsS := hS x.toNat y.toNat (by omega) (by omega)
            obtain ⟨L, hw⟩ := Ls x.toNat (by omega)
            obtain ⟨L1, L2, L3, L4, L5⟩ := id L
            refine x_al (pc := 43) (j := x.toNat) dX6_mix_43 (by assumption) (by omega) (by omega) (by omega) (gB _ (by omega)) ?_
            refine x_astore (pc := 44) dX6_mix_44 (by decide) rfl ?_
            show Ex _ _ _ _ _ _ [_, _, _, _, _, _, _, _] _ _ _ _
            refine x_iload_n (pc := 46) dX6_mix_46 rfl ?_
            refine x_aload (pc := 47) dX6_mix_47 rfl ?_
            refine x_gn (pc := 49) dX6_mix_49 fX6_95 (by assumption) (by omega) ?_
            refine x_iload_n (pc := 52) dX6_mix_52 rfl ?_
            refine x_il (pc := 53) (j := y.toNat) dX6_mix_53 (by assumption) (by omega) (by omega) (by omega) ?_
            refine x_t2 (pc := 54) dX6_mix_54 wX6_isBelow sX6_isBelow kX6_148 (by decide) rfl (Nat.le_of_ble_eq_true rfl) (t_isBelow hu (by omega)) ?_
            refine x_if_eq (pc := 57) (tgt := 75) dX6_mix_57 (by decide) (bz_rg _) (fun c57 => ?_) (fun c57 => ?_)
            · have d3 := bz_e c57
              refine x_iconst (pc := 75) dX6_mix_75 ?_
              refine x_zret (pc := 76) dX6_mix_76 rfl (by omega) ⟨_, rfl, rfl, Or.inr ⟨fun h => by omega, rfl, rfl⟩⟩
            · have d3 := bz_n c57
              refine x_iload (pc := 60) dX6_mix_60 rfl ?_
              refine x_aload (pc := 62) dX6_mix_62 rfl ?_
              refine x_gn (pc := 64) dX6_mix_64 fX6_95 (by assumption) (by omega) ?_
              refine x_iload_n (pc := 67) dX6_mix_67 rfl ?_
              refine x_il (pc := 68) (j := y.toNat) dX6_mix_68 (by assumption) (by omega) (by omega) (by omega) ?_
              refine x_t2 (pc := 69) dX6_mix_69 wX6_isBelow sX6_isBelow kX6_148 (by decide) rfl (Nat.le_of_ble_eq_true rfl) (t_isBelow hv (by omega)) ?_
              refine x_if_ne (pc := 72) (tgt := 77) dX6_mix_72 (by decide) (bz_rg _) (fun c72 => ?_) (fun c72 => ?_)
              · have d4 := bz_n c72
                refine x_iload_n (pc := 77) dX6_mix_77 rfl ?_
                refine x_iconst (pc := 78) dX6_mix_78 ?_
                refine x_isub (pc := 79) dX6_mix_79 ?_
                refine x_istore (pc := 80) dX6_mix_80 (by decide) rfl ?_
                show Ex _ _ _ _ _ _ [_, _, _, _, _, _, _, _] _ _ _ _
                have hl := Ls x.toNat (by omega)
                have hg : ∀ {α : Type} (F : Nat → α) (l : Nat), up F l (F l) = F := fun F l => by funext b; by_cases e : b = l; (rw [e, up_s]); (rw [up_n _ _ e])
                obtain ⟨l, rfl⟩ : ∃ l : Nat, x = (l : Int) := ⟨x.toNat, by omega⟩
                obtain ⟨t, rfl⟩ : ∃ t : Nat, y = (t : Int) := ⟨y.toNat, by omega⟩
                obtain ⟨i, rfl⟩ : ∃ i : Nat, u = (i : Int) := ⟨u.toNat, by omega⟩
                obtain ⟨j, rfl⟩ : ∃ j : Nat, v = (j : Int) := ⟨v.toNat, by omega⟩
                simp only [Int.toNat_natCast] at L hw d3 d4 hsS ⊢
                exact l_mixA (d := d) (a := 2 + 3 * l) hz hN hP (by omega) (by omega) (by omega) (by omega) (by omega) (fun b hb => hS l b (by omega) hb) hw (by omega) C L (hT l (by omega)) (fun h n2 C1 l1 f1 m1 => by
                  obtain ⟨n1, m1, m2⟩ := m1
                  have q1 := LysA.one Ls (show l < 8 by omega) f1 l1 hw
                  rw [hg, hg] at q1
                  exact ⟨_, rfl, rfl, Or.inl ⟨⟨by omega, by omega, by omega, by omega, by omega, by omega, by omega, by omega, by omega, by omega, by omega⟩, rfl, C1, f1.wide (by omega) (by omega), n1, n2, q1, m1, m2⟩⟩)
              · have d4 := bz_e c72
                refine x_iconst (pc := 75) dX6_mix_75 ?_
                refine x_zret (pc := 76) dX6_mix_76 rfl (by omega) ⟨_, rfl, rfl, Or.inr ⟨fun h => by omega, rfl, rfl⟩⟩
          · refine x_iconst (pc := 36) dX6_mix_36 ?_
            refine x_zret (pc := 37) dX6_mix_37 rfl (by omega) ⟨_, rfl, rfl, Or.inr ⟨fun h => by omega, rfl, rfl⟩⟩

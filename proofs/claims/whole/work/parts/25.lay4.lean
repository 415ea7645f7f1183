theorem l_pt2 {G : GL} {d : Nat} {sz a b k top left R C w w' : Nat} {s s' n' : Nat → Int} {Q : Option AV → HP → Nat → Prop} (hz : a + 2 < sz) (hy : b + 2 < sz) (hab : b + 2 < a ∨ a + 2 < b) (hk : k < 7) (hR : top + R ≤ 4) (hC : left + C ≤ 4) {i : Nat} (hi : i < R) : ∀ j, j ≤ C → ∀ (hp : HP) (n : Nat → Int), Lay hp a s n w → Lay hp b s' n' w' → (∀ h n1, Fr hp h a (a + 2) → Lay h a s n1 w → (∀ c, j ≤ c → c < C → n1 (k * 16 + (top + i) * 4 + (left + c)) = n' (k * 16 + i * 4 + c)) → (∀ x, (∀ c, j ≤ c → c < C → x ≠ k * 16 + (top + i) * 4 + (left + c)) → n1 x = n x) → Ex G (d + 1) 0 0 mX0_putTable 63 [vr a, vr b, vi k, vi top, vi left, vi R, vi C, vi i, vi C] [] h sz Q) → Ex G (d + 1) 0 0 mX0_putTable 27 [vr a, vr b, vi k, vi top, vi left, vi R, vi C, vi i, vi j] [] hp sz Q := by
  refine down (fun hp n L K hq => ?_) (fun j hj ih hp n L K hq => ?_)
  · refine x_iload (pc := 27) dX0_putTable_27 rfl ?_
    refine x_iload (pc := 29) dX0_putTable_29 rfl ?_
    refine x_icmp_ge (pc := 31) (tgt := 63) dX0_putTable_31 (by decide) (by omega) (by omega) (fun c31 => ?_) (fun c31 => ?_)
    · exact hq hp n Fr.rf L (fun c h1 h2 => absurd h2 (by omega)) (fun x _ => rfl)
    · exact absurd c31 (by omega)
  · have hob := L.ob
    have hkb := K.ob
    refine x_iload (pc := 27) dX0_putTable_27 rfl ?_
    refine x_iload (pc := 29) dX0_putTable_29 rfl ?_
    refine x_icmp_ge (pc := 31) (tgt := 63) dX0_putTable_31 (by decide) (by omega) (by omega) (fun c31 => ?_) (fun c31 => ?_)
    · exact absurd c31 (by omega)
    · refine x_aload_n (pc := 34) dX0_putTable_34 rfl ?_
      refine x_iload_n (pc := 35) dX0_putTable_35 rfl ?_
      refine x_iload_n (pc := 36) dX0_putTable_36 rfl ?_
      refine x_iload (pc := 37) dX0_putTable_37 rfl ?_
      refine x_iadd (pc := 39) dX0_putTable_39 ?_
      refine x_iload (pc := 40) dX0_putTable_40 rfl ?_
      refine x_iload (pc := 42) dX0_putTable_42 rfl ?_
      refine x_iadd (pc := 44) dX0_putTable_44 ?_
      refine x_aload_n (pc := 45) dX0_putTable_45 rfl ?_
      refine x_iload_n (pc := 46) dX0_putTable_46 rfl ?_
      refine x_iload (pc := 47) dX0_putTable_47 rfl ?_
      refine x_iload (pc := 49) dX0_putTable_49 rfl ?_
      refine x_w3 (pc := 51) dX0_putTable_51 wX0_number iX0_number kX0_45 (by decide) rfl (Nat.le_of_ble_eq_true rfl) (by assumption) (by omega) (t_number K hy hk (by omega) (by omega)) ?_
      refine x_p4 (pc := 54) dX0_putTable_54 wX0_put iX0_put kX0_55 (by decide) rfl (Nat.le_of_ble_eq_true rfl) (by assumption) (by omega) (t_put (r := top + i) (c := left + j) L hz hk (by omega) (by omega)) (fun h54 e54 => ?_)
      subst e54
      refine x_iinc (pc := 57) dX0_putTable_57 rfl (by decide) rfl ?_
      show Ex _ _ _ _ _ _ [_, _, _, _, _, _, _, _, _] _ _ _ _
      refine x_goto (pc := 60) (tgt := 27) dX0_putTable_60 (by decide) ?_
      exact ih _ _ L.upn (K.keep (fun x h1 h2 => up_n _ _ (by omega))) (fun h n1 f1 l1 e1 e2 => hq h n1 ((Fr.rf.up (by omega) (by omega)).tr f1) l1 (fun c h1 h2 => by
        by_cases hc : c = j
        · subst hc
          rw [e2 _ (fun c' h3 h4 => by omega), up_s]
        · exact e1 c (by omega) h2) (fun x hx => by
        rw [e2 x (fun c h3 h4 => hx c (by omega) h4), up_n _ _ (hx j (by omega) hj)]))
theorem l_pt1 {G : GL} {d : Nat} {sz a b k top left R C w w' : Nat} {s s' n' : Nat → Int} {Q : Option AV → HP → Nat → Prop} (hz : a + 2 < sz) (hy : b + 2 < sz) (hab : b + 2 < a ∨ a + 2 < b) (hk : k < 7) (hR : top + R ≤ 4) (hC : left + C ≤ 4) : ∀ i, i ≤ R → ∀ (hp : HP) (n : Nat → Int) (v8 : AV), Lay hp a s n w → Lay hp b s' n' w' → (∀ h n1, Fr hp h a (a + 2) → Lay h a s n1 w → (∀ r c, i ≤ r → r < R → c < C → n1 (k * 16 + (top + r) * 4 + (left + c)) = n' (k * 16 + r * 4 + c)) → (∀ x, (∀ r c, i ≤ r → r < R → c < C → x ≠ k * 16 + (top + r) * 4 + (left + c)) → n1 x = n x) → Q none h sz) → Ex G (d + 1) 0 0 mX0_putTable 17 [vr a, vr b, vi k, vi top, vi left, vi R, vi C, vi i, v8] [] hp sz Q := by
  refine down (fun hp n v8 L K hq => ?_) (fun i hi ih hp n v8 L K hq => ?_)
  · refine x_iload (pc := 17) dX0_putTable_17 rfl ?_
    refine x_iload (pc := 19) dX0_putTable_19 rfl ?_
    refine x_icmp_ge (pc := 21) (tgt := 69) dX0_putTable_21 (by decide) (by omega) (by omega) (fun c21 => ?_) (fun c21 => ?_)
    · refine x_vret (pc := 69) dX0_putTable_69 rfl (hq hp n Fr.rf L (fun r c h1 h2 => absurd h2 (by omega)) (fun x _ => rfl))
    · exact absurd c21 (by omega)
  · refine x_iload (pc := 17) dX0_putTable_17 rfl ?_
    refine x_iload (pc := 19) dX0_putTable_19 rfl ?_
    refine x_icmp_ge (pc := 21) (tgt := 69) dX0_putTable_21 (by decide) (by omega) (by omega) (fun c21 => ?_) (fun c21 => ?_)
    · exact absurd c21 (by omega)
    · refine x_iconst (pc := 24) dX0_putTable_24 ?_
      refine x_istore (pc := 25) dX0_putTable_25 (by decide) rfl ?_
      show Ex _ _ _ _ _ _ [_, _, _, _, _, _, _, _, _] _ _ _ _
      refine l_pt2 hz hy hab hk hR hC hi 0 (by omega) hp n L K (fun h n1 f1 l1 e1 e2 => ?_)
      have K1 := K.keep (hp' := h) (fun x h1 h2 => f1 x (by omega))
      refine x_iinc (pc := 63) dX0_putTable_63 rfl (by decide) rfl ?_
      show Ex _ _ _ _ _ _ [_, _, _, _, _, _, _, _, _] _ _ _ _
      refine x_goto (pc := 66) (tgt := 17) dX0_putTable_66 (by decide) ?_
      exact ih h n1 _ l1 K1 (fun h2 n2 f2 l2 g1 g2 => hq h2 n2 (f1.tr f2) l2 (fun r c h3 h4 h5 => by
        by_cases hr : r = i
        · subst hr
          rw [g2 _ (fun r' c' h6 h7 h8 => by omega)]
          exact e1 c (by omega) h5
        · exact g1 r c (by omega) h4 h5) (fun x hx => by
        rw [g2 x (fun r c h3 h4 h5 => hx r c (by omega) h4 h5), e2 x (fun c h3 h4 => hx i c (by omega) hi h4)]))

set_option maxRecDepth 4000 in
theorem t_putTable {G : GL} {d : Nat} {hp : HP} {sz : Nat} {a : Nat} {s n : Nat → Int} {w : Nat} (L : Lay hp a s n w) (hz : a + 2 < sz) {b k top left w' R C : Nat} {s' n' : Nat → Int} (K : Lay hp b s' n' w') (hy : b + 2 < sz) (hab : b + 2 < a ∨ a + 2 < b) (hk : k < 7) (hw : w' < 128) (eR : s' (if w'.testBit k then k else k + 1) = R) (eC : s' (if w'.testBit k then k + 1 else k) = C) (hR : top + R ≤ 4) (hC : left + C ≤ 4) : Ct G (d + 3) 0 0 mX0_putTable [vr a, vr b, vi k, vi top, vi left] hp sz (Vd (fun h => Fr hp h a (a + 2) ∧ ∃ n1, Lay h a s n1 w ∧ (∀ r c, r < R → c < C → n1 (k * 16 + (top + r) * 4 + (left + c)) = n' (k * 16 + r * 4 + c)) ∧ (∀ x, (∀ r c, r < R → c < C → x ≠ k * 16 + (top + r) * 4 + (left + c)) → n1 x = n x)) sz) := by
  show Ex _ _ _ _ _ _ [vr a, vr b, vi k, vi top, vi left, vu, vu, vu, vu] _ _ _ _
  have hob := L.ob
  have hkb := K.ob
  refine x_aload_n (pc := 0) dX0_putTable_0 rfl ?_
  refine x_iload_n (pc := 1) dX0_putTable_1 rfl ?_
  refine x_w1 (pc := 2) dX0_putTable_2 wX0_rowsOf iX0_rowsOf kX0_49 (by decide) rfl (Nat.le_of_ble_eq_true rfl) (by assumption) (by omega) (t_rowsOf K hy hk hw) ?_
  rw [eR]
  refine x_istore (pc := 5) dX0_putTable_5 (by decide) rfl ?_
  show Ex _ _ _ _ _ _ [_, _, _, _, _, _, _, _, _] _ _ _ _
  refine x_aload_n (pc := 7) dX0_putTable_7 rfl ?_
  refine x_iload_n (pc := 8) dX0_putTable_8 rfl ?_
  refine x_w1 (pc := 9) dX0_putTable_9 wX0_columnsOf iX0_columnsOf kX0_52 (by decide) rfl (Nat.le_of_ble_eq_true rfl) (by assumption) (by omega) (t_columnsOf K hy hk hw) ?_
  rw [eC]
  refine x_istore (pc := 12) dX0_putTable_12 (by decide) rfl ?_
  show Ex _ _ _ _ _ _ [_, _, _, _, _, _, _, _, _] _ _ _ _
  refine x_iconst (pc := 14) dX0_putTable_14 ?_
  refine x_istore (pc := 15) dX0_putTable_15 (by decide) rfl ?_
  show Ex _ _ _ _ _ _ [_, _, _, _, _, _, _, _, _] _ _ _ _
  exact l_pt1 hz hy hab hk hR hC 0 (by omega) hp n _ L K (fun h n1 f1 l1 e1 e2 => ⟨rfl, rfl, f1, n1, l1, fun r c h1 h2 => e1 r c (by omega) h1 h2, fun x hx => e2 x (fun r c _ h1 h2 => hx r c h1 h2)⟩)

def rowRel (p k i j C : Nat) (c : Int) (n n' : Nat → Int) : Prop := (∀ q, q < C → n' (k * 16 + i * 4 + q) = (n (k * 16 + i * 4 + q) + c * n (k * 16 + j * 4 + q)) % p) ∧ ∀ x, (∀ q, q < C → x ≠ k * 16 + i * 4 + q) → n' x = n x
def colRel (p k i j C : Nat) (c : Int) (n n' : Nat → Int) : Prop := (∀ q, q < C → n' (k * 16 + q * 4 + i) = (n (k * 16 + q * 4 + i) + c * n (k * 16 + q * 4 + j)) % p) ∧ ∀ x, (∀ q, q < C → x ≠ k * 16 + q * 4 + i) → n' x = n x

theorem l_addRow {G : GL} {d : Nat} {sz : Nat} {p N : Nat} (hz : 92 ≤ sz) {a k i j C w : Nat} (ha : 2 ≤ a ∧ a ≤ 26) (hk : k < 7) (hi : i < 4) (hj : j < 4) (hij : i ≠ j) (hC : C ≤ 4) {s : Nat → Int} {c : Int} (hP : isP p) (hc : 0 ≤ c ∧ c ≤ p) {Q : Option AV → HP → Nat → Prop} : ∀ q, q ≤ C → ∀ (hp : HP) (n : Nat → Int) (v8 : AV), ClsA hp p N → Lay hp a s n w → inL n p → (∀ h n1, ClsA h p N → Lay h a s n1 w → Fr hp h a (a + 2) → (∀ x, q ≤ x → x < C → n1 (k * 16 + i * 4 + x) = (n (k * 16 + i * 4 + x) + c * n (k * 16 + j * 4 + x)) % p) → (∀ z, (∀ x, q ≤ x → x < C → z ≠ k * 16 + i * 4 + x) → n1 z = n z) → Q none h sz) → Ex G (d + 1) 0 0 mX6_addRow 10 [vr 0, vr a, vi k, vi i, vi j, vi c, vi C, vi q, v8] [] hp sz Q := by
  refine down (fun hp n v8 Cl L hn hq => ?_) (fun q hq9 ih hp n v8 Cl L hn hq => ?_)
  · refine x_iload (pc := 10) dX6_addRow_10 rfl ?_
    refine x_iload (pc := 12) dX6_addRow_12 rfl ?_
    refine x_icmp_ge (pc := 14) (tgt := 61) dX6_addRow_14 (by decide) (by omega) (by omega) (fun c14 => ?_) (fun c14 => ?_)
    · refine x_vret (pc := 61) dX6_addRow_61 rfl (hq hp n Cl L Fr.rf (fun x h1 h2 => absurd h2 (by omega)) (fun z _ => rfl))
    · exact absurd c14 (by omega)
  · have hoL := L.ob
    have C0 := Cl.1
    refine x_iload (pc := 10) dX6_addRow_10 rfl ?_
    refine x_iload (pc := 12) dX6_addRow_12 rfl ?_
    refine x_icmp_ge (pc := 14) (tgt := 61) dX6_addRow_14 (by decide) (by omega) (by omega) (fun c14 => ?_) (fun c14 => ?_)
    · exact absurd c14 (by omega)
    · refine x_aload_n (pc := 17) dX6_addRow_17 rfl ?_
      refine x_iload_n (pc := 18) dX6_addRow_18 rfl ?_
      refine x_iload_n (pc := 19) dX6_addRow_19 rfl ?_
      refine x_iload (pc := 20) dX6_addRow_20 rfl ?_
      refine x_w3 (pc := 22) dX6_addRow_22 wX0_number iX0_number kX6_113 (by decide) rfl (Nat.le_of_ble_eq_true rfl) (by assumption) (by omega) (t_number (r := i) (c := q) L (by omega) hk (by omega) (by omega)) ?_
      refine x_iload (pc := 25) dX6_addRow_25 rfl ?_
      refine x_aload_n (pc := 27) dX6_addRow_27 rfl ?_
      refine x_iload_n (pc := 28) dX6_addRow_28 rfl ?_
      refine x_iload (pc := 29) dX6_addRow_29 rfl ?_
      refine x_iload (pc := 31) dX6_addRow_31 rfl ?_
      refine x_w3 (pc := 33) dX6_addRow_33 wX0_number iX0_number kX6_113 (by decide) rfl (Nat.le_of_ble_eq_true rfl) (by assumption) (by omega) (t_number (r := j) (c := q) L (by omega) hk (by omega) (by omega)) ?_
      refine x_imul (pc := 36) dX6_addRow_36 ?_
      refine x_iadd (pc := 37) dX6_addRow_37 ?_
      refine x_istore (pc := 38) dX6_addRow_38 (by decide) rfl ?_
      show Ex _ _ _ _ _ _ [_, _, _, _, _, _, _, _, _] _ _ _ _
      refine x_aload_n (pc := 40) dX6_addRow_40 rfl ?_
      refine x_iload_n (pc := 41) dX6_addRow_41 rfl ?_
      refine x_iload_n (pc := 42) dX6_addRow_42 rfl ?_
      refine x_iload (pc := 43) dX6_addRow_43 rfl ?_
      refine x_iload (pc := 45) dX6_addRow_45 rfl ?_
      refine x_aload_n (pc := 47) dX6_addRow_47 rfl ?_
      refine x_gf (pc := 48) dX6_addRow_48 fX6_13 (by assumption) (by omega) ?_
      have hm1 := hn (k * 16 + i * 4 + q) (by omega)
      have hm2 := hn (k * 16 + j * 4 + q) (by omega)
      have hm9 := mul13 hP.le.2 hm2 hc
      rw [Int.mul_comm] at hm9
      have hpl := hP.le
      refine x_irem (pc := 51) dX6_addRow_51 (by omega) (by omega) ?_
      rw [tm (by omega)]
      refine x_p4 (pc := 52) dX6_addRow_52 wX0_put iX0_put kX6_109 (by decide) rfl (Nat.le_of_ble_eq_true rfl) (by assumption) (by omega) (t_put (r := i) (c := q) L (by omega) hk (by omega) (by omega)) (fun h52 e52 => ?_)
      subst e52
      refine x_iinc (pc := 55) dX6_addRow_55 rfl (by decide) rfl ?_
      show Ex _ _ _ _ _ _ [_, _, _, _, _, _, _, _, _] _ _ _ _
      refine x_goto (pc := 58) (tgt := 10) dX6_addRow_58 (by decide) ?_
      exact ih _ _ _ (Cl.keep (up_n _ _ (by omega)) (up_n _ _ (by omega))) L.upn (fun z hz9 => by
        by_cases e : z = k * 16 + i * 4 + q
        · subst e; rw [up_s]; exact emod_rg (by omega)
        · rw [up_n _ _ e]; exact hn z hz9) (fun h n1 C1 l1 f1 e1 e2 => hq h n1 C1 l1 ((Fr.rf.up (by omega) (by omega)).tr f1) (fun x h1 h2 => by
        by_cases e : x = q
        · subst e
          rw [e2 _ (fun x' h3 h4 => by omega), up_s]
        · rw [e1 x (by omega) h2, up_n _ _ (by omega), up_n _ _ (by omega)]) (fun z hz9 => by
        rw [e2 z (fun x h3 h4 => hz9 x (by omega) h4), up_n _ _ (hz9 q (by omega) hq9)]))

set_option maxRecDepth 4000 in
theorem t_addRow {G : GL} {d : Nat} {hp : HP} {sz : Nat} {p N : Nat} (Cl : ClsA hp p N) (hz : 92 ≤ sz) {a k i j C w : Nat} (ha : 2 ≤ a ∧ a ≤ 26) (hk : k < 7) (hi : i < 4) (hj : j < 4) (hij : i ≠ j) {s n : Nat → Int} {c : Int} (hP : isP p) (hc : 0 ≤ c ∧ c ≤ p) (L : Lay hp a s n w) (hw : w < 128) (eC : s (if w.testBit k then k + 1 else k) = (C : Int)) (hC : C ≤ 4) (hn : inL n p) : Ct G (d + 3) 0 0 mX6_addRow [vr 0, vr a, vi k, vi i, vi j, vi c] hp sz (Vd (fun h => Fr hp h a (a + 2) ∧ ∃ n1, Lay h a s n1 w ∧ rowRel p k i j C c n n1) sz) := by
  show Ex _ _ _ _ _ _ [vr 0, vr a, vi k, vi i, vi j, vi c, vu, vu, vu] _ _ _ _
  have hoL := L.ob
  refine x_aload_n (pc := 0) dX6_addRow_0 rfl ?_
  refine x_iload_n (pc := 1) dX6_addRow_1 rfl ?_
  refine x_w1 (pc := 2) dX6_addRow_2 wX0_columnsOf iX0_columnsOf kX6_141 (by decide) rfl (Nat.le_of_ble_eq_true rfl) (by assumption) (by omega) (t_columnsOf L (by omega) hk hw) ?_
  rw [eC]
  refine x_istore (pc := 5) dX6_addRow_5 (by decide) rfl ?_
  show Ex _ _ _ _ _ _ [_, _, _, _, _, _, _, _, _] _ _ _ _
  refine x_iconst (pc := 7) dX6_addRow_7 ?_
  refine x_istore (pc := 8) dX6_addRow_8 (by decide) rfl ?_
  show Ex _ _ _ _ _ _ [_, _, _, _, _, _, _, _, _] _ _ _ _
  exact l_addRow (d := d + 2) hz ha hk hi hj hij hC hP hc 0 (by omega) hp n _ Cl L hn (fun h n1 C1 l1 f1 e1 e2 => ⟨rfl, rfl, f1, n1, l1, fun x hx => e1 x (by omega) hx, fun z hz9 => e2 z (fun x _ hx => hz9 x hx)⟩)

theorem l_addColumn {G : GL} {d : Nat} {sz : Nat} {p N : Nat} (hz : 92 ≤ sz) {a k i j C w : Nat} (ha : 2 ≤ a ∧ a ≤ 26) (hk : k < 7) (hi : i < 4) (hj : j < 4) (hij : i ≠ j) (hC : C ≤ 4) {s : Nat → Int} {c : Int} (hP : isP p) (hc : 0 ≤ c ∧ c ≤ p) {Q : Option AV → HP → Nat → Prop} : ∀ q, q ≤ C → ∀ (hp : HP) (n : Nat → Int) (v8 : AV), ClsA hp p N → Lay hp a s n w → inL n p → (∀ h n1, ClsA h p N → Lay h a s n1 w → Fr hp h a (a + 2) → (∀ x, q ≤ x → x < C → n1 (k * 16 + x * 4 + i) = (n (k * 16 + x * 4 + i) + c * n (k * 16 + x * 4 + j)) % p) → (∀ z, (∀ x, q ≤ x → x < C → z ≠ k * 16 + x * 4 + i) → n1 z = n z) → Q none h sz) → Ex G (d + 1) 0 0 mX6_addColumn 10 [vr 0, vr a, vi k, vi i, vi j, vi c, vi C, vi q, v8] [] hp sz Q := by
  refine down (fun hp n v8 Cl L hn hq => ?_) (fun q hq9 ih hp n v8 Cl L hn hq => ?_)
  · refine x_iload (pc := 10) dX6_addColumn_10 rfl ?_
    refine x_iload (pc := 12) dX6_addColumn_12 rfl ?_
    refine x_icmp_ge (pc := 14) (tgt := 61) dX6_addColumn_14 (by decide) (by omega) (by omega) (fun c14 => ?_) (fun c14 => ?_)
    · refine x_vret (pc := 61) dX6_addColumn_61 rfl (hq hp n Cl L Fr.rf (fun x h1 h2 => absurd h2 (by omega)) (fun z _ => rfl))
    · exact absurd c14 (by omega)
  · have hoL := L.ob
    have C0 := Cl.1
    refine x_iload (pc := 10) dX6_addColumn_10 rfl ?_
    refine x_iload (pc := 12) dX6_addColumn_12 rfl ?_
    refine x_icmp_ge (pc := 14) (tgt := 61) dX6_addColumn_14 (by decide) (by omega) (by omega) (fun c14 => ?_) (fun c14 => ?_)
    · exact absurd c14 (by omega)
    · refine x_aload_n (pc := 17) dX6_addColumn_17 rfl ?_
      refine x_iload_n (pc := 18) dX6_addColumn_18 rfl ?_
      refine x_iload (pc := 19) dX6_addColumn_19 rfl ?_
      refine x_iload_n (pc := 21) dX6_addColumn_21 rfl ?_
      refine x_w3 (pc := 22) dX6_addColumn_22 wX0_number iX0_number kX6_113 (by decide) rfl (Nat.le_of_ble_eq_true rfl) (by assumption) (by omega) (t_number (r := q) (c := i) L (by omega) hk (by omega) (by omega)) ?_
      refine x_iload (pc := 25) dX6_addColumn_25 rfl ?_
      refine x_aload_n (pc := 27) dX6_addColumn_27 rfl ?_
      refine x_iload_n (pc := 28) dX6_addColumn_28 rfl ?_
      refine x_iload (pc := 29) dX6_addColumn_29 rfl ?_
      refine x_iload (pc := 31) dX6_addColumn_31 rfl ?_
      refine x_w3 (pc := 33) dX6_addColumn_33 wX0_number iX0_number kX6_113 (by decide) rfl (Nat.le_of_ble_eq_true rfl) (by assumption) (by omega) (t_number (r := q) (c := j) L (by omega) hk (by omega) (by omega)) ?_
      refine x_imul (pc := 36) dX6_addColumn_36 ?_
      refine x_iadd (pc := 37) dX6_addColumn_37 ?_
      refine x_istore (pc := 38) dX6_addColumn_38 (by decide) rfl ?_
      show Ex _ _ _ _ _ _ [_, _, _, _, _, _, _, _, _] _ _ _ _
      refine x_aload_n (pc := 40) dX6_addColumn_40 rfl ?_
      refine x_iload_n (pc := 41) dX6_addColumn_41 rfl ?_
      refine x_iload (pc := 42) dX6_addColumn_42 rfl ?_
      refine x_iload_n (pc := 44) dX6_addColumn_44 rfl ?_
      refine x_iload (pc := 45) dX6_addColumn_45 rfl ?_
      refine x_aload_n (pc := 47) dX6_addColumn_47 rfl ?_
      refine x_gf (pc := 48) dX6_addColumn_48 fX6_13 (by assumption) (by omega) ?_
      have hm1 := hn (k * 16 + q * 4 + i) (by omega)
      have hm2 := hn (k * 16 + q * 4 + j) (by omega)
      have hm9 := mul13 hP.le.2 hm2 hc
      rw [Int.mul_comm] at hm9
      have hpl := hP.le
      refine x_irem (pc := 51) dX6_addColumn_51 (by omega) (by omega) ?_
      rw [tm (by omega)]
      refine x_p4 (pc := 52) dX6_addColumn_52 wX0_put iX0_put kX6_109 (by decide) rfl (Nat.le_of_ble_eq_true rfl) (by assumption) (by omega) (t_put (r := q) (c := i) L (by omega) hk (by omega) (by omega)) (fun h52 e52 => ?_)
      subst e52
      refine x_iinc (pc := 55) dX6_addColumn_55 rfl (by decide) rfl ?_
      show Ex _ _ _ _ _ _ [_, _, _, _, _, _, _, _, _] _ _ _ _
      refine x_goto (pc := 58) (tgt := 10) dX6_addColumn_58 (by decide) ?_
      exact ih _ _ _ (Cl.keep (up_n _ _ (by omega)) (up_n _ _ (by omega))) L.upn (fun z hz9 => by
        by_cases e : z = k * 16 + q * 4 + i
        · subst e; rw [up_s]; exact emod_rg (by omega)
        · rw [up_n _ _ e]; exact hn z hz9) (fun h n1 C1 l1 f1 e1 e2 => hq h n1 C1 l1 ((Fr.rf.up (by omega) (by omega)).tr f1) (fun x h1 h2 => by
        by_cases e : x = q
        · subst e
          rw [e2 _ (fun x' h3 h4 => by omega), up_s]
        · rw [e1 x (by omega) h2, up_n _ _ (by omega), up_n _ _ (by omega)]) (fun z hz9 => by
        rw [e2 z (fun x h3 h4 => hz9 x (by omega) h4), up_n _ _ (hz9 q (by omega) hq9)]))

set_option maxRecDepth 4000 in
theorem t_addColumn {G : GL} {d : Nat} {hp : HP} {sz : Nat} {p N : Nat} (Cl : ClsA hp p N) (hz : 92 ≤ sz) {a k i j C w : Nat} (ha : 2 ≤ a ∧ a ≤ 26) (hk : k < 7) (hi : i < 4) (hj : j < 4) (hij : i ≠ j) {s n : Nat → Int} {c : Int} (hP : isP p) (hc : 0 ≤ c ∧ c ≤ p) (L : Lay hp a s n w) (hw : w < 128) (eC : s (if w.testBit k then k else k + 1) = (C : Int)) (hC : C ≤ 4) (hn : inL n p) : Ct G (d + 3) 0 0 mX6_addColumn [vr 0, vr a, vi k, vi i, vi j, vi c] hp sz (Vd (fun h => Fr hp h a (a + 2) ∧ ∃ n1, Lay h a s n1 w ∧ colRel p k i j C c n n1) sz) := by
  show Ex _ _ _ _ _ _ [vr 0, vr a, vi k, vi i, vi j, vi c, vu, vu, vu] _ _ _ _
  have hoL := L.ob
  refine x_aload_n (pc := 0) dX6_addColumn_0 rfl ?_
  refine x_iload_n (pc := 1) dX6_addColumn_1 rfl ?_
  refine x_w1 (pc := 2) dX6_addColumn_2 wX0_rowsOf iX0_rowsOf kX6_138 (by decide) rfl (Nat.le_of_ble_eq_true rfl) (by assumption) (by omega) (t_rowsOf L (by omega) hk hw) ?_
  rw [eC]
  refine x_istore (pc := 5) dX6_addColumn_5 (by decide) rfl ?_
  show Ex _ _ _ _ _ _ [_, _, _, _, _, _, _, _, _] _ _ _ _
  refine x_iconst (pc := 7) dX6_addColumn_7 ?_
  refine x_istore (pc := 8) dX6_addColumn_8 (by decide) rfl ?_
  show Ex _ _ _ _ _ _ [_, _, _, _, _, _, _, _, _] _ _ _ _
  exact l_addColumn (d := d + 2) hz ha hk hi hj hij hC hP hc 0 (by omega) hp n _ Cl L hn (fun h n1 C1 l1 f1 e1 e2 => ⟨rfl, rfl, f1, n1, l1, fun x hx => e1 x (by omega) hx, fun z hz9 => e2 z (fun x _ hx => hz9 x hx)⟩)

def cellM (N : Nat) (S : Nat → Int) (W : Nat → Nat) (x y u v : Int) (l k i j : Nat) : Prop := x = (l : Int) ∧ y = (k : Int) ∧ u = (i : Int) ∧ v = (j : Int) ∧ l < 8 ∧ k < N - 1 ∧ (i : Int) < S (8 * l + (if (W l).testBit k then k else k + 1)) ∧ (j : Int) < S (8 * l + (if (W l).testBit k then k + 1 else k))
def inSm (S : Nat → Int) : Prop := ∀ x, x < 64 → 0 ≤ S x ∧ S x ≤ 4

set_option maxRecDepth 4000 in
theorem m_isCell {G : GL} {d : Nat} {hp : HP} {sz : Nat} {p N : Nat} (C : ModA hp p N) (hz : 615 ≤ sz) (hN : 1 ≤ N ∧ N ≤ 8) {W : Nat → Nat} {S T : Nat → Int} (D : MdS hp W S T) (hS : inSm S) {x : Int} (hx : -2147483648 ≤ x ∧ x < 2147483648) {y : Int} (hy : -2147483648 ≤ y ∧ y < 2147483648) {u : Int} (hu : -2147483648 ≤ u ∧ u < 2147483648) {v : Int} (hv : -2147483648 ≤ v ∧ v < 2147483648) : Ct G (d + 2) 0 0 mX7_isCell [vr 92, vi x, vi y, vi u, vi v] hp sz (Vs (fun r h => h = hp ∧ ∃ b : Bool, r = vi (bz b) ∧ (b = true ↔ ∃ l k i j : Nat, cellM N S W x y u v l k i j)) sz) := by
  show Ex _ _ _ _ _ _ [vr 92, vi x, vi y, vi u, vi v] _ _ _ _
  obtain ⟨C0, C1, C2, C3, C4, C5, C6, C7, C8, C11, C12, C13, C14, C15, C16, C17, C18, C19, C20, C21, C22, C23⟩ := id C
  have hob := C0.ob
  refine x_iload_n (pc := 0) dX7_isCell_0 rfl ?_
  refine x_t1 (pc := 1) dX7_isCell_1 wX7_isLaying sX7_isLaying kX7_104 (by decide) rfl (Nat.le_of_ble_eq_true rfl) (m_isLaying hx) ?_
  refine x_if_eq (pc := 4) (tgt := 68) dX7_isCell_4 (by decide) (bz_rg _) (fun c4 => ?_) (fun c4 => ?_)
  · have d1 := bz_e c4
    refine x_iconst (pc := 68) dX7_isCell_68 ?_
    refine x_zret (pc := 69) dX7_isCell_69 rfl (by omega) (by first | exact ⟨_, rfl, rfl, rfl, true, rfl, ⟨fun _ => ⟨l, k, u.toNat, v.toNat, rfl, rfl, by omega, by omega, by omega, by omega, by omega, by omega⟩, fun _ => rfl⟩⟩ | exact ⟨_, rfl, rfl, rfl, false, rfl, ⟨fun h => absurd h (by decide), fun h => (by obtain ⟨l1, k1, i1, j1, e1, e2, e3, e4, e5, e6, e7, e8⟩ := h; first | omega | (have q1 : l1 = l := (by omega); have q2 : k1 = k := (by omega); subst q1; subst q2; omega))⟩⟩)
  · have d1 := bz_n c4
    obtain ⟨l, rfl⟩ : ∃ l : Nat, x = (l : Int) := ⟨x.toNat, by omega⟩
    refine x_iload_n (pc := 7) dX7_isCell_7 rfl ?_
    refine x_iconst (pc := 8) dX7_isCell_8 ?_
    refine x_aload_n (pc := 9) dX7_isCell_9 rfl ?_
    refine x_gf (pc := 10) dX7_isCell_10 fX7_93 (by assumption) (by omega) ?_
    refine x_iconst (pc := 13) dX7_isCell_13 ?_
    refine x_isub (pc := 14) dX7_isCell_14 ?_
    refine x_t3 (pc := 15) dX7_isCell_15 wX7_in sX7_in kX7_96 (by decide) rfl (Nat.le_of_ble_eq_true rfl) (m_in hy (by omega) (by omega)) ?_
    refine x_if_eq (pc := 18) (tgt := 68) dX7_isCell_18 (by decide) (bz_rg _) (fun c18 => ?_) (fun c18 => ?_)
    · have d2 := bz_e c18
      refine x_iconst (pc := 68) dX7_isCell_68 ?_
      refine x_zret (pc := 69) dX7_isCell_69 rfl (by omega) (by first | exact ⟨_, rfl, rfl, rfl, true, rfl, ⟨fun _ => ⟨l, k, u.toNat, v.toNat, rfl, rfl, by omega, by omega, by omega, by omega, by omega, by omega⟩, fun _ => rfl⟩⟩ | exact ⟨_, rfl, rfl, rfl, false, rfl, ⟨fun h => absurd h (by decide), fun h => (by obtain ⟨l1, k1, i1, j1, e1, e2, e3, e4, e5, e6, e7, e8⟩ := h; first | omega | (have q1 : l1 = l := (by omega); have q2 : k1 = k := (by omega); subst q1; subst q2; omega))⟩⟩)
    · have d2 := bz_n c18
      obtain ⟨k, rfl⟩ : ∃ k : Nat, y = (k : Int) := ⟨y.toNat, by omega⟩
      refine x_iload_n (pc := 21) dX7_isCell_21 rfl ?_
      refine x_iconst (pc := 22) dX7_isCell_22 ?_
      refine x_aload_n (pc := 23) dX7_isCell_23 rfl ?_
      refine x_iload_n (pc := 24) dX7_isCell_24 rfl ?_
      refine x_aload_n (pc := 25) dX7_isCell_25 rfl ?_
      refine x_iload_n (pc := 26) dX7_isCell_26 rfl ?_
      refine x_iload_n (pc := 27) dX7_isCell_27 rfl ?_
      refine x_w2 (pc := 28) dX7_isCell_28 wX7_target iX7_target kX7_115 (by decide) rfl (Nat.le_of_ble_eq_true rfl) (by assumption) (by omega) (m_target C hz hN D (l := l) (k := k) (by omega) (by omega)) ?_
      refine x_w2 (pc := 31) dX7_isCell_31 wX7_at iX7_at kX7_118 (by decide) rfl (Nat.le_of_ble_eq_true rfl) (by assumption) (by omega) (m_at C hz hN D (l := l) (k := (if (W l).testBit k then k else k + 1)) (by omega) (by split <;> omega)) ?_
      refine x_iconst (pc := 34) dX7_isCell_34 ?_
      refine x_isub (pc := 35) dX7_isCell_35 ?_
      refine x_t3 (pc := 36) dX7_isCell_36 wX7_in sX7_in kX7_96 (by decide) rfl (Nat.le_of_ble_eq_true rfl) (m_in hu (by omega) (by have := hS (8 * l + (if (W l).testBit k then k else k + 1)) (by split <;> omega); omega)) ?_
      refine x_if_eq (pc := 39) (tgt := 68) dX7_isCell_39 (by decide) (bz_rg _) (fun c39 => ?_) (fun c39 => ?_)
      · have d3 := bz_e c39
        refine x_iconst (pc := 68) dX7_isCell_68 ?_
        refine x_zret (pc := 69) dX7_isCell_69 rfl (by omega) (by first | exact ⟨_, rfl, rfl, rfl, true, rfl, ⟨fun _ => ⟨l, k, u.toNat, v.toNat, rfl, rfl, by omega, by omega, by omega, by omega, by omega, by omega⟩, fun _ => rfl⟩⟩ | exact ⟨_, rfl, rfl, rfl, false, rfl, ⟨fun h => absurd h (by decide), fun h => (by obtain ⟨l1, k1, i1, j1, e1, e2, e3, e4, e5, e6, e7, e8⟩ := h; first | omega | (have q1 : l1 = l := (by omega); have q2 : k1 = k := (by omega); subst q1; subst q2; omega))⟩⟩)
      · have d3 := bz_n c39
        refine x_iload (pc := 42) dX7_isCell_42 rfl ?_
        refine x_iconst (pc := 44) dX7_isCell_44 ?_
        refine x_aload_n (pc := 45) dX7_isCell_45 rfl ?_
        refine x_iload_n (pc := 46) dX7_isCell_46 rfl ?_
        refine x_aload_n (pc := 47) dX7_isCell_47 rfl ?_
        refine x_iload_n (pc := 48) dX7_isCell_48 rfl ?_
        refine x_iload_n (pc := 49) dX7_isCell_49 rfl ?_
        refine x_w2 (pc := 50) dX7_isCell_50 wX7_source iX7_source kX7_121 (by decide) rfl (Nat.le_of_ble_eq_true rfl) (by assumption) (by omega) (m_source C hz hN D (l := l) (k := k) (by omega) (by omega)) ?_
        refine x_w2 (pc := 53) dX7_isCell_53 wX7_at iX7_at kX7_118 (by decide) rfl (Nat.le_of_ble_eq_true rfl) (by assumption) (by omega) (m_at C hz hN D (l := l) (k := (if (W l).testBit k then k + 1 else k)) (by omega) (by split <;> omega)) ?_
        refine x_iconst (pc := 56) dX7_isCell_56 ?_
        refine x_isub (pc := 57) dX7_isCell_57 ?_
        refine x_t3 (pc := 58) dX7_isCell_58 wX7_in sX7_in kX7_96 (by decide) rfl (Nat.le_of_ble_eq_true rfl) (m_in hv (by omega) (by have := hS (8 * l + (if (W l).testBit k then k + 1 else k)) (by split <;> omega); omega)) ?_
        refine x_if_eq (pc := 61) (tgt := 68) dX7_isCell_61 (by decide) (bz_rg _) (fun c61 => ?_) (fun c61 => ?_)
        · have d4 := bz_e c61
          refine x_iconst (pc := 68) dX7_isCell_68 ?_
          refine x_zret (pc := 69) dX7_isCell_69 rfl (by omega) (by first | exact ⟨_, rfl, rfl, rfl, true, rfl, ⟨fun _ => ⟨l, k, u.toNat, v.toNat, rfl, rfl, by omega, by omega, by omega, by omega, by omega, by omega⟩, fun _ => rfl⟩⟩ | exact ⟨_, rfl, rfl, rfl, false, rfl, ⟨fun h => absurd h (by decide), fun h => (by obtain ⟨l1, k1, i1, j1, e1, e2, e3, e4, e5, e6, e7, e8⟩ := h; first | omega | (have q1 : l1 = l := (by omega); have q2 : k1 = k := (by omega); subst q1; subst q2; omega))⟩⟩)
        · have d4 := bz_n c61
          refine x_iconst (pc := 64) dX7_isCell_64 ?_
          refine x_goto (pc := 65) (tgt := 69) dX7_isCell_65 (by decide) ?_
          refine x_zret (pc := 69) dX7_isCell_69 rfl (by omega) (by first | exact ⟨_, rfl, rfl, rfl, true, rfl, ⟨fun _ => ⟨l, k, u.toNat, v.toNat, rfl, rfl, by omega, by omega, by omega, by omega, by omega, by omega⟩, fun _ => rfl⟩⟩ | exact ⟨_, rfl, rfl, rfl, false, rfl, ⟨fun h => absurd h (by decide), fun h => (by obtain ⟨l1, k1, i1, j1, e1, e2, e3, e4, e5, e6, e7, e8⟩ := h; first | omega | (have q1 : l1 = l := (by omega); have q2 : k1 = k := (by omega); subst q1; subst q2; omega))⟩⟩)

set_option maxRecDepth 4000 in
theorem m_get {G : GL} {d : Nat} {hp : HP} {sz : Nat} {p N : Nat} (C : ModA hp p N) (hz : 615 ≤ sz) (hN : 1 ≤ N ∧ N ≤ 8) {W : Nat → Nat} {S T : Nat → Int} (D : MdS hp W S T) (hS : inSm S) {x : Int} (hx : -2147483648 ≤ x ∧ x < 2147483648) {y : Int} (hy : -2147483648 ≤ y ∧ y < 2147483648) {u : Int} (hu : -2147483648 ≤ u ∧ u < 2147483648) {v : Int} (hv : -2147483648 ≤ v ∧ v < 2147483648) : Ct G (d + 3) 0 0 mX7_get [vr 92, vi x, vi y, vi u, vi v] hp sz (Vs (fun r h => h = hp ∧ ∃ z : Int, r = vi z ∧ ((∃ l k i j : Nat, cellM N S W x y u v l k i j ∧ z = T (l * 128 + k * 16 + i * 4 + j)) ∨ ((¬ ∃ l k i j : Nat, cellM N S W x y u v l k i j) ∧ z = -1))) sz) := by
  show Ex _ _ _ _ _ _ [vr 92, vi x, vi y, vi u, vi v] _ _ _ _
  obtain ⟨C0, C1, C2, C3, C4, C5, C6, C7, C8, C11, C12, C13, C14, C15, C16, C17, C18, C19, C20, C21, C22, C23⟩ := id C
  have hob := C0.ob
  obtain ⟨D1, D2, D3, D4⟩ := id D
  refine x_aload_n (pc := 0) dX7_get_0 rfl ?_
  refine x_iload_n (pc := 1) dX7_get_1 rfl ?_
  refine x_iload_n (pc := 2) dX7_get_2 rfl ?_
  refine x_iload_n (pc := 3) dX7_get_3 rfl ?_
  refine x_iload (pc := 4) dX7_get_4 rfl ?_
  refine x_y4 (pc := 6) dX7_get_6 wX7_isCell iX7_isCell kX7_124 (by decide) rfl (Nat.le_of_ble_eq_true rfl) (by assumption) (by omega) (m_isCell C hz hN D hS hx hy hu hv) (fun v6 h6 e6 => ?_)
  obtain ⟨rfl, b, rfl, hb⟩ := e6
  refine x_if_eq (pc := 9) (tgt := 28) dX7_get_9 (by decide) (bz_rg _) (fun c9 => ?_) (fun c9 => ?_)
  · have b0 : b = false := by cases b <;> simp_all [bz]
    subst b0
    refine x_iconst (pc := 28) dX7_get_28 ?_
    refine x_iret (pc := 29) dX7_get_29 rfl (by first | exact ⟨_, rfl, rfl, rfl, _, rfl, Or.inl ⟨l, k, i, j, ⟨rfl, rfl, rfl, rfl, hl, hk, hi, hj⟩, rfl⟩⟩ | exact ⟨_, rfl, rfl, rfl, _, rfl, Or.inr ⟨fun h => absurd (hb.mpr h) (by decide), rfl⟩⟩)
  · have b1 : b = true := by cases b <;> simp_all [bz]
    subst b1
    obtain ⟨l, k, i, j, rfl, rfl, rfl, rfl, hl, hk, hi, hj⟩ := hb.mp rfl
    have hs1 := hS (8 * l + (if (W l).testBit k then k else k + 1)) (by split <;> omega)
    have hs2 := hS (8 * l + (if (W l).testBit k then k + 1 else k)) (by split <;> omega)
    refine x_aload_n (pc := 12) dX7_get_12 rfl ?_
    refine x_gf (pc := 13) dX7_get_13 fX7_16 (by assumption) (by omega) ?_
    refine x_iload_n (pc := 16) dX7_get_16 rfl ?_
    refine x_iload_n (pc := 17) dX7_get_17 rfl ?_
    refine x_iload_n (pc := 18) dX7_get_18 rfl ?_
    refine x_iload (pc := 19) dX7_get_19 rfl ?_
    refine x_t4 (pc := 21) dX7_get_21 wX7_cell sX7_cell kX7_128 (by decide) rfl (Nat.le_of_ble_eq_true rfl) (m_cell) ?_
    refine x_il (pc := 24) dX7_get_24 (by assumption) (by omega) rfl (by omega) ?_
    refine x_goto (pc := 25) (tgt := 29) dX7_get_25 (by decide) ?_
    refine x_iret (pc := 29) dX7_get_29 rfl (by first | exact ⟨_, rfl, rfl, rfl, _, rfl, Or.inl ⟨l, k, i, j, ⟨rfl, rfl, rfl, rfl, hl, hk, hi, hj⟩, rfl⟩⟩ | exact ⟨_, rfl, rfl, rfl, _, rfl, Or.inr ⟨fun h => absurd (hb.mpr h) (by decide), rfl⟩⟩)

set_option maxRecDepth 4000 in
theorem m_set {G : GL} {d : Nat} {hp : HP} {sz : Nat} {p N : Nat} (C : ModA hp p N) (hz : 615 ≤ sz) (hN : 1 ≤ N ∧ N ≤ 8) (hP : isP p) {W : Nat → Nat} {S T : Nat → Int} (D : MdS hp W S T) (hS : inSm S) {x : Int} (hx : -2147483648 ≤ x ∧ x < 2147483648) {y : Int} (hy : -2147483648 ≤ y ∧ y < 2147483648) {u : Int} (hu : -2147483648 ≤ u ∧ u < 2147483648) {v : Int} (hv : -2147483648 ≤ v ∧ v < 2147483648) {z : Int} (hz1 : -2147483648 ≤ z ∧ z < 2147483648) : Ct G (d + 3) 0 0 mX7_set [vr 92, vi x, vi y, vi u, vi v, vi z] hp sz (Vs (fun r h => ModA h p N ∧ Fr hp h 95 95 ∧ ((∃ l k i j : Nat, cellM N S W x y u v l k i j ∧ r = vi 1 ∧ MdS h W S (up T (l * 128 + k * 16 + i * 4 + j) (z % p))) ∨ ((¬ ∃ l k i j : Nat, cellM N S W x y u v l k i j) ∧ r = vi 0 ∧ h = hp))) sz) := by
  show Ex _ _ _ _ _ _ [vr 92, vi x, vi y, vi u, vi v, vi z] _ _ _ _
  obtain ⟨C0, C1, C2, C3, C4, C5, C6, C7, C8, C11, C12, C13, C14, C15, C16, C17, C18, C19, C20, C21, C22, C23⟩ := id C
  have hob := C0.ob
  obtain ⟨D1, D2, D3, D4⟩ := id D
  refine x_aload_n (pc := 0) dX7_set_0 rfl ?_
  refine x_iload_n (pc := 1) dX7_set_1 rfl ?_
  refine x_iload_n (pc := 2) dX7_set_2 rfl ?_
  refine x_iload_n (pc := 3) dX7_set_3 rfl ?_
  refine x_iload (pc := 4) dX7_set_4 rfl ?_
  refine x_y4 (pc := 6) dX7_set_6 wX7_isCell iX7_isCell kX7_124 (by decide) rfl (Nat.le_of_ble_eq_true rfl) (by assumption) (by omega) (m_isCell C hz hN D hS hx hy hu hv) (fun v6 h6 e6 => ?_)
  obtain ⟨rfl, b, rfl, hb⟩ := e6
  refine x_if_ne (pc := 9) (tgt := 14) dX7_set_9 (by decide) (bz_rg _) (fun c9 => ?_) (fun c9 => ?_)
  · have b1 : b = true := by cases b <;> simp_all [bz]
    subst b1
    obtain ⟨l, k, i, j, rfl, rfl, rfl, rfl, hl, hk, hi, hj⟩ := hb.mp rfl
    have hs1 := hS (8 * l + (if (W l).testBit k then k else k + 1)) (by split <;> omega)
    have hs2 := hS (8 * l + (if (W l).testBit k then k + 1 else k)) (by split <;> omega)
    refine x_aload_n (pc := 14) dX7_set_14 rfl ?_
    refine x_gf (pc := 15) dX7_set_15 fX7_16 (by assumption) (by omega) ?_
    refine x_iload_n (pc := 18) dX7_set_18 rfl ?_
    refine x_iload_n (pc := 19) dX7_set_19 rfl ?_
    refine x_iload_n (pc := 20) dX7_set_20 rfl ?_
    refine x_iload (pc := 21) dX7_set_21 rfl ?_
    refine x_t4 (pc := 23) dX7_set_23 wX7_cell sX7_cell kX7_128 (by decide) rfl (Nat.le_of_ble_eq_true rfl) (m_cell) ?_
    refine x_aload_n (pc := 26) dX7_set_26 rfl ?_
    refine x_iload (pc := 27) dX7_set_27 rfl ?_
    refine x_w1 (pc := 29) dX7_set_29 wX7_rest iX7_rest kX7_132 (by decide) rfl (Nat.le_of_ble_eq_true rfl) (by assumption) (by omega) (m_rest C hz hN hP hz1) ?_
    refine x_is (pc := 32) dX7_set_32 (by assumption) (by omega) rfl (by omega) ?_
    refine x_iconst (pc := 33) dX7_set_33 ?_
    refine x_zret (pc := 34) dX7_set_34 rfl (by omega) ⟨_, rfl, rfl, C.keep (up_n _ _ (by omega)), Fr.rf.up (by omega) (by omega), Or.inl ⟨l, k, i, j, ⟨rfl, rfl, rfl, rfl, hl, hk, hi, hj⟩, rfl, ⟨(up_n _ _ (by omega)).trans D1, (up_n _ _ (by omega)).trans D2, up_s _ _ _, D4⟩⟩⟩
  · have b0 : b = false := by cases b <;> simp_all [bz]
    subst b0
    refine x_iconst (pc := 12) dX7_set_12 ?_
    refine x_zret (pc := 13) dX7_set_13 rfl (by omega) ⟨_, rfl, rfl, C, Fr.rf, Or.inr ⟨fun h => absurd (hb.mpr h) (by decide), rfl, rfl⟩⟩

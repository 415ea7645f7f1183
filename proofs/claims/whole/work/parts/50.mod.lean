/-- the SpanLoomModel at 92 -/
def ModA (hp : HP) (p N : Nat) : Prop := fld hp 92 7 0 (vi p) ∧ fld hp 92 7 1 (vi N) ∧ fld hp 92 7 2 (vr 93) ∧ fld hp 92 7 3 (vr 94) ∧ fld hp 92 7 4 (vr 95) ∧ fld hp 92 7 5 (vr 96) ∧ fld hp 92 7 6 (vr 97) ∧ fld hp 92 7 7 (vr 98) ∧ fld hp 92 7 8 (vr 359) ∧ fld hp 92 7 11 (vr 360) ∧ fld hp 92 7 12 (vr 361) ∧ fld hp 92 7 13 (vr 362) ∧ fld hp 92 7 14 (vr 396) ∧ fld hp 92 7 15 (vr 397) ∧ fld hp 92 7 16 (vr 398) ∧ fld hp 92 7 17 (vr 399) ∧ fld hp 92 7 18 (vr 400) ∧ fld hp 92 7 19 (vr 401) ∧ fld hp 92 7 20 (vr 402) ∧ fld hp 92 7 21 (vr 403) ∧ fld hp 92 7 22 (vr 413) ∧ fld hp 92 7 23 (vr 414)
theorem ModA.keep {hp hp' : HP} {p N : Nat} (h : ModA hp p N) (e : hp' 92 = hp 92) : ModA hp' p N := by
  obtain ⟨h0, h1, h2, h3, h4, h5, h6, h7, h8, h9, h10, h11, h12, h13, h14, h15, h16, h17, h18, h19, h20, h21⟩ := h
  exact ⟨h0.keep e, h1.keep e, h2.keep e, h3.keep e, h4.keep e, h5.keep e, h6.keep e, h7.keep e, h8.keep e, h9.keep e, h10.keep e, h11.keep e, h12.keep e, h13.keep e, h14.keep e, h15.keep e, h16.keep e, h17.keep e, h18.keep e, h19.keep e, h20.keep e, h21.keep e⟩
def MdS (hp : HP) (W : Nat → Nat) (S T : Nat → Int) : Prop := hp 93 = ar 0 8 (fun l => (W l : Int)) ∧ hp 94 = ar 0 64 S ∧ hp 95 = ar 0 1024 T ∧ ∀ l, l < 8 → W l < 128
theorem MdS.keep {hp hp' : HP} {W : Nat → Nat} {S T : Nat → Int} (h : MdS hp W S T) (e : ∀ x, 93 ≤ x → x ≤ 95 → hp' x = hp x) : MdS hp' W S T := ⟨(e _ (by omega) (by omega)).trans h.1, (e _ (by omega) (by omega)).trans h.2.1, (e _ (by omega) (by omega)).trans h.2.2.1, h.2.2.2⟩

set_option maxRecDepth 4000 in
theorem m_in {G : GL} {d : Nat} {hp : HP} {sz : Nat}  {x : Int} (hx : -2147483648 ≤ x ∧ x < 2147483648) {y : Int} (hy : -2147483648 ≤ y ∧ y < 2147483648) {z : Int} (hz1 : -2147483648 ≤ z ∧ z < 2147483648) : Ct G d 0 0 mX7_in [vi x, vi y, vi z] hp sz (Rd (some (vi (bz (decide (y ≤ x ∧ x ≤ z))))) hp sz) := by
  show Ex _ _ _ _ _ _ [vi x, vi y, vi z] _ _ _ _
  refine x_iload_n (pc := 0) dX7_in_0 rfl ?_
  refine x_iload_n (pc := 1) dX7_in_1 rfl ?_
  refine x_icmp_lt (pc := 2) (tgt := 14) dX7_in_2 (by decide) (by omega) (by omega) (fun c2 => ?_) (fun c2 => ?_)
  · refine x_iconst (pc := 14) dX7_in_14 ?_
    refine x_zret (pc := 15) dX7_in_15 rfl (by omega) ⟨by first | rw [← bz1 (by omega)] | rw [← bz0 (by omega)], rfl, rfl⟩
  · refine x_iload_n (pc := 5) dX7_in_5 rfl ?_
    refine x_iload_n (pc := 6) dX7_in_6 rfl ?_
    refine x_icmp_gt (pc := 7) (tgt := 14) dX7_in_7 (by decide) (by omega) (by omega) (fun c7 => ?_) (fun c7 => ?_)
    · refine x_iconst (pc := 14) dX7_in_14 ?_
      refine x_zret (pc := 15) dX7_in_15 rfl (by omega) ⟨by first | rw [← bz1 (by omega)] | rw [← bz0 (by omega)], rfl, rfl⟩
    · refine x_iconst (pc := 10) dX7_in_10 ?_
      refine x_goto (pc := 11) (tgt := 15) dX7_in_11 (by decide) ?_
      refine x_zret (pc := 15) dX7_in_15 rfl (by omega) ⟨by first | rw [← bz1 (by omega)] | rw [← bz0 (by omega)], rfl, rfl⟩

set_option maxRecDepth 4000 in
theorem m_isLaying {G : GL} {d : Nat} {hp : HP} {sz : Nat}  {x : Int} (hx : -2147483648 ≤ x ∧ x < 2147483648) : Ct G (d + 1) 0 0 mX7_isLaying [vi x] hp sz (Rd (some (vi (bz (decide (0 ≤ x ∧ x ≤ 7))))) hp sz) := by
  show Ex _ _ _ _ _ _ [vi x] _ _ _ _
  refine x_iload_n (pc := 0) dX7_isLaying_0 rfl ?_
  refine x_iconst (pc := 1) dX7_isLaying_1 ?_
  refine x_bipush (pc := 2) dX7_isLaying_2 (by decide) ?_
  refine x_t3 (pc := 4) dX7_isLaying_4 wX7_in sX7_in kX7_96 (by decide) rfl (Nat.le_of_ble_eq_true rfl) (m_in hx (by omega) (by omega)) ?_
  refine x_zret (pc := 7) dX7_isLaying_7 rfl (bz_01 _) ⟨rfl, rfl, rfl⟩

set_option maxRecDepth 4000 in
theorem m_isPost {G : GL} {d : Nat} {hp : HP} {sz : Nat} {p N : Nat} (C : ModA hp p N) (hz : 615 ≤ sz) (hN : 1 ≤ N ∧ N ≤ 8) {x : Int} (hx : -2147483648 ≤ x ∧ x < 2147483648) : Ct G (d + 1) 0 0 mX7_isPost [vr 92, vi x] hp sz (Rd (some (vi (bz (decide (0 ≤ x ∧ x ≤ (N : Int) - 1))))) hp sz) := by
  show Ex _ _ _ _ _ _ [vr 92, vi x] _ _ _ _
  obtain ⟨C0, C1, C2, C3, C4, C5, C6, C7, C8, C11, C12, C13, C14, C15, C16, C17, C18, C19, C20, C21, C22, C23⟩ := id C
  have hob := C0.ob
  refine x_iload_n (pc := 0) dX7_isPost_0 rfl ?_
  refine x_iconst (pc := 1) dX7_isPost_1 ?_
  refine x_aload_n (pc := 2) dX7_isPost_2 rfl ?_
  refine x_gf (pc := 3) dX7_isPost_3 fX7_93 (by assumption) (by omega) ?_
  refine x_iconst (pc := 6) dX7_isPost_6 ?_
  refine x_isub (pc := 7) dX7_isPost_7 ?_
  refine x_t3 (pc := 8) dX7_isPost_8 wX7_in sX7_in kX7_96 (by decide) rfl (Nat.le_of_ble_eq_true rfl) (m_in hx (by omega) (by omega)) ?_
  refine x_zret (pc := 11) dX7_isPost_11 rfl (bz_01 _) ⟨rfl, rfl, rfl⟩

theorem tm_key {x : Int} {p : Nat} (hp : 2 ≤ p) : x % p = if x.tmod p < 0 then x.tmod p + p else x.tmod p := by
  have hb := tmod_bounds (a := x) (M := (p : Int)) (by omega)
  rcases Int.le_total 0 x with h0 | h0
  · rw [Int.tmod_eq_emod_of_nonneg h0, if_neg]
    have := Int.emod_nonneg x (show (p : Int) ≠ 0 by omega)
    omega
  · have e := Int.mul_tdiv_add_tmod x p
    have hnn : x.tmod p ≤ 0 := by
      have := Int.tmod_nonneg (a := -x) (p : Int) (by omega)
      rw [Int.neg_tmod] at this
      omega
    by_cases hz9 : x.tmod p = 0
    · rw [hz9, if_neg (by omega)]
      exact Int.emod_eq_zero_of_dvd (Int.dvd_of_tmod_eq_zero hz9)
    · rw [if_pos (by omega)]
      have e2 : x = (x.tmod p + p) + p * (x.tdiv p - 1) := by rw [Int.mul_sub, Int.mul_one]; omega
      have e3 : x % p = ((x.tmod p + p) + p * (x.tdiv p - 1)) % p := by rw [← e2]
      rw [e3, Int.add_mul_emod_self_left, Int.emod_eq_of_lt (by omega) (by omega)]

set_option maxRecDepth 4000 in
theorem m_rest {G : GL} {d : Nat} {hp : HP} {sz : Nat} {p N : Nat} (C : ModA hp p N) (hz : 615 ≤ sz) (hN : 1 ≤ N ∧ N ≤ 8) (hP : isP p) {x : Int} (hx : -2147483648 ≤ x ∧ x < 2147483648) : Ct G d 0 0 mX7_rest [vr 92, vi x] hp sz (Rd (some (vi (x % p))) hp sz) := by
  show Ex _ _ _ _ _ _ [vr 92, vi x, vu] _ _ _ _
  obtain ⟨C0, C1, C2, C3, C4, C5, C6, C7, C8, C11, C12, C13, C14, C15, C16, C17, C18, C19, C20, C21, C22, C23⟩ := id C
  have hob := C0.ob
  have hpl := hP.le
  have hb := tmod_bounds (a := x) (M := (p : Int)) (by omega)
  have key : x % p = if x.tmod p < 0 then x.tmod p + p else x.tmod p := tm_key hpl.1
  refine x_iload_n (pc := 0) dX7_rest_0 rfl ?_
  refine x_aload_n (pc := 1) dX7_rest_1 rfl ?_
  refine x_gf (pc := 2) dX7_rest_2 fX7_80 (by assumption) (by omega) ?_
  refine x_irem (pc := 5) dX7_rest_5 (by omega) (by omega) ?_
  refine x_istore_n (pc := 6) dX7_rest_6 (by decide) rfl ?_
  show Ex _ _ _ _ _ _ [_, _, _] _ _ _ _
  refine x_iload_n (pc := 7) dX7_rest_7 rfl ?_
  refine x_if_ge (pc := 8) (tgt := 20) dX7_rest_8 (by decide) (by omega) (fun c8 => ?_) (fun c8 => ?_)
  · refine x_iload_n (pc := 20) dX7_rest_20 rfl ?_
    refine x_iret (pc := 21) dX7_rest_21 rfl (by first | exact ⟨by rw [key, if_pos (by omega)], rfl, rfl⟩ | exact ⟨by rw [key, if_neg (by omega)], rfl, rfl⟩)
  · refine x_iload_n (pc := 11) dX7_rest_11 rfl ?_
    refine x_aload_n (pc := 12) dX7_rest_12 rfl ?_
    refine x_gf (pc := 13) dX7_rest_13 fX7_80 (by assumption) (by omega) ?_
    refine x_iadd (pc := 16) dX7_rest_16 ?_
    refine x_goto (pc := 17) (tgt := 21) dX7_rest_17 (by decide) ?_
    refine x_iret (pc := 21) dX7_rest_21 rfl (by first | exact ⟨by rw [key, if_pos (by omega)], rfl, rfl⟩ | exact ⟨by rw [key, if_neg (by omega)], rfl, rfl⟩)

set_option maxRecDepth 4000 in
theorem m_cell {G : GL} {d : Nat} {hp : HP} {sz : Nat} {l k r c : Nat} : Ct G d 0 0 mX7_cell [vi l, vi k, vi r, vi c] hp sz (Rd (some (vi ((l * 128 + k * 16 + r * 4 + c : Nat) : Int))) hp sz) := by
  show Ex _ _ _ _ _ _ [vi l, vi k, vi r, vi c] _ _ _ _
  refine x_iload_n (pc := 0) dX7_cell_0 rfl ?_
  refine x_bipush (pc := 1) dX7_cell_1 (by decide) ?_
  refine x_imul (pc := 3) dX7_cell_3 ?_
  refine x_iload_n (pc := 4) dX7_cell_4 rfl ?_
  refine x_iadd (pc := 5) dX7_cell_5 ?_
  refine x_iconst (pc := 6) dX7_cell_6 ?_
  refine x_imul (pc := 7) dX7_cell_7 ?_
  refine x_iload_n (pc := 8) dX7_cell_8 rfl ?_
  refine x_iadd (pc := 9) dX7_cell_9 ?_
  refine x_iconst (pc := 10) dX7_cell_10 ?_
  refine x_imul (pc := 11) dX7_cell_11 ?_
  refine x_iload_n (pc := 12) dX7_cell_12 rfl ?_
  refine x_iadd (pc := 13) dX7_cell_13 ?_
  refine x_iret (pc := 14) dX7_cell_14 rfl ⟨by congr 2; omega, rfl, rfl⟩

set_option maxRecDepth 4000 in
theorem m_isLeft {G : GL} {d : Nat} {hp : HP} {sz : Nat} {p N : Nat} (C : ModA hp p N) (hz : 615 ≤ sz) (hN : 1 ≤ N ∧ N ≤ 8) {W : Nat → Nat} {S T : Nat → Int} (D : MdS hp W S T) {l k : Nat} (hl : l < 8) (hk : k < 8) : Ct G d 0 0 mX7_isLeft [vr 92, vi l, vi k] hp sz (Rd (some (vi (bz ((W l).testBit k)))) hp sz) := by
  show Ex _ _ _ _ _ _ [vr 92, vi l, vi k] _ _ _ _
  obtain ⟨C0, C1, C2, C3, C4, C5, C6, C7, C8, C11, C12, C13, C14, C15, C16, C17, C18, C19, C20, C21, C22, C23⟩ := id C
  have hob := C0.ob
  obtain ⟨D1, D2, D3, D4⟩ := id D
  have hw := D4 l hl
  refine x_aload_n (pc := 0) dX7_isLeft_0 rfl ?_
  refine x_gf (pc := 1) dX7_isLeft_1 fX7_9 (by assumption) (by omega) ?_
  refine x_iload_n (pc := 4) dX7_isLeft_4 rfl ?_
  refine x_il (pc := 5) dX7_isLeft_5 (by assumption) (by omega) rfl (by omega) ?_
  refine x_iload_n (pc := 6) dX7_isLeft_6 rfl ?_
  refine x_ishr (pc := 7) dX7_isLeft_7 (by omega) (by omega) ?_
  refine x_iconst (pc := 8) dX7_isLeft_8 ?_
  refine x_iand 1 (pc := 9) dX7_isLeft_9 (by decide) (by decide +kernel) ?_
  rw [lb_eq]
  refine x_iconst (pc := 10) dX7_isLeft_10 ?_
  refine x_icmp_ne (pc := 11) (tgt := 18) dX7_isLeft_11 (by decide) (by rcases bz_01 ((W l).testBit k) with h | h <;> rw [h] <;> decide) (by omega) (fun c11 => ?_) (fun c11 => ?_)
  · have h9 : (W l).testBit k = false := by cases hh : (W l).testBit k <;> simp_all [bz]
    refine x_iconst (pc := 18) dX7_isLeft_18 ?_
    refine x_zret (pc := 19) dX7_isLeft_19 rfl (by omega) ⟨by rw [h9]; rfl, rfl, rfl⟩
  · have h9 : (W l).testBit k = true := by cases hh : (W l).testBit k <;> simp_all [bz]
    refine x_iconst (pc := 14) dX7_isLeft_14 ?_
    refine x_goto (pc := 15) (tgt := 19) dX7_isLeft_15 (by decide) ?_
    refine x_zret (pc := 19) dX7_isLeft_19 rfl (by omega) ⟨by rw [h9]; rfl, rfl, rfl⟩

set_option maxRecDepth 4000 in
theorem m_source {G : GL} {d : Nat} {hp : HP} {sz : Nat} {p N : Nat} (C : ModA hp p N) (hz : 615 ≤ sz) (hN : 1 ≤ N ∧ N ≤ 8) {W : Nat → Nat} {S T : Nat → Int} (D : MdS hp W S T) {l k : Nat} (hl : l < 8) (hk : k < 7) : Ct G (d + 1) 0 0 mX7_source [vr 92, vi l, vi k] hp sz (Rd (some (vi ((if (W l).testBit k then k + 1 else k : Nat) : Int))) hp sz) := by
  show Ex _ _ _ _ _ _ [vr 92, vi l, vi k] _ _ _ _
  obtain ⟨C0, C1, C2, C3, C4, C5, C6, C7, C8, C11, C12, C13, C14, C15, C16, C17, C18, C19, C20, C21, C22, C23⟩ := id C
  have hob := C0.ob
  refine x_aload_n (pc := 0) dX7_source_0 rfl ?_
  refine x_iload_n (pc := 1) dX7_source_1 rfl ?_
  refine x_iload_n (pc := 2) dX7_source_2 rfl ?_
  refine x_w2 (pc := 3) dX7_source_3 wX7_isLeft iX7_isLeft kX7_100 (by decide) rfl (Nat.le_of_ble_eq_true rfl) (by assumption) (by omega) (m_isLeft C hz hN D hl (by omega)) ?_
  refine x_if_eq (pc := 6) (tgt := 15) dX7_source_6 (by decide) (by rcases bz_01 ((W l).testBit k) with h | h <;> rw [h] <;> decide) (fun c6 => ?_) (fun c6 => ?_)
  · have h9 : (W l).testBit k = false := by cases hh : (W l).testBit k <;> simp_all [bz]
    refine x_iload_n (pc := 15) dX7_source_15 rfl ?_
    refine x_iret (pc := 16) dX7_source_16 rfl ⟨by rw [h9]; rfl, rfl, rfl⟩
  · have h9 : (W l).testBit k = true := by cases hh : (W l).testBit k <;> simp_all [bz]
    refine x_iload_n (pc := 9) dX7_source_9 rfl ?_
    refine x_iconst (pc := 10) dX7_source_10 ?_
    refine x_iadd (pc := 11) dX7_source_11 ?_
    refine x_goto (pc := 12) (tgt := 16) dX7_source_12 (by decide) ?_
    refine x_iret (pc := 16) dX7_source_16 rfl ⟨by rw [h9]; rfl, rfl, rfl⟩

set_option maxRecDepth 4000 in
theorem m_target {G : GL} {d : Nat} {hp : HP} {sz : Nat} {p N : Nat} (C : ModA hp p N) (hz : 615 ≤ sz) (hN : 1 ≤ N ∧ N ≤ 8) {W : Nat → Nat} {S T : Nat → Int} (D : MdS hp W S T) {l k : Nat} (hl : l < 8) (hk : k < 7) : Ct G (d + 1) 0 0 mX7_target [vr 92, vi l, vi k] hp sz (Rd (some (vi ((if (W l).testBit k then k else k + 1 : Nat) : Int))) hp sz) := by
  show Ex _ _ _ _ _ _ [vr 92, vi l, vi k] _ _ _ _
  obtain ⟨C0, C1, C2, C3, C4, C5, C6, C7, C8, C11, C12, C13, C14, C15, C16, C17, C18, C19, C20, C21, C22, C23⟩ := id C
  have hob := C0.ob
  refine x_aload_n (pc := 0) dX7_target_0 rfl ?_
  refine x_iload_n (pc := 1) dX7_target_1 rfl ?_
  refine x_iload_n (pc := 2) dX7_target_2 rfl ?_
  refine x_w2 (pc := 3) dX7_target_3 wX7_isLeft iX7_isLeft kX7_100 (by decide) rfl (Nat.le_of_ble_eq_true rfl) (by assumption) (by omega) (m_isLeft C hz hN D hl (by omega)) ?_
  refine x_if_eq (pc := 6) (tgt := 13) dX7_target_6 (by decide) (by rcases bz_01 ((W l).testBit k) with h | h <;> rw [h] <;> decide) (fun c6 => ?_) (fun c6 => ?_)
  · have h9 : (W l).testBit k = false := by cases hh : (W l).testBit k <;> simp_all [bz]
    refine x_iload_n (pc := 13) dX7_target_13 rfl ?_
    refine x_iconst (pc := 14) dX7_target_14 ?_
    refine x_iadd (pc := 15) dX7_target_15 ?_
    refine x_iret (pc := 16) dX7_target_16 rfl ⟨by rw [h9]; rfl, rfl, rfl⟩
  · have h9 : (W l).testBit k = true := by cases hh : (W l).testBit k <;> simp_all [bz]
    refine x_iload_n (pc := 9) dX7_target_9 rfl ?_
    refine x_goto (pc := 10) (tgt := 16) dX7_target_10 (by decide) ?_
    refine x_iret (pc := 16) dX7_target_16 rfl ⟨by rw [h9]; rfl, rfl, rfl⟩

set_option maxRecDepth 4000 in
theorem m_at {G : GL} {d : Nat} {hp : HP} {sz : Nat} {p N : Nat} (C : ModA hp p N) (hz : 615 ≤ sz) (hN : 1 ≤ N ∧ N ≤ 8) {W : Nat → Nat} {S T : Nat → Int} (D : MdS hp W S T) {l k : Nat} (hl : l < 8) (hk : k < 8) : Ct G d 0 0 mX7_at [vr 92, vi l, vi k] hp sz (Rd (some (vi (S (8 * l + k)))) hp sz) := by
  show Ex _ _ _ _ _ _ [vr 92, vi l, vi k] _ _ _ _
  obtain ⟨C0, C1, C2, C3, C4, C5, C6, C7, C8, C11, C12, C13, C14, C15, C16, C17, C18, C19, C20, C21, C22, C23⟩ := id C
  have hob := C0.ob
  obtain ⟨D1, D2, D3, D4⟩ := id D
  refine x_aload_n (pc := 0) dX7_at_0 rfl ?_
  refine x_gf (pc := 1) dX7_at_1 fX7_13 (by assumption) (by omega) ?_
  refine x_bipush (pc := 4) dX7_at_4 (by decide) ?_
  refine x_iload_n (pc := 6) dX7_at_6 rfl ?_
  refine x_imul (pc := 7) dX7_at_7 ?_
  refine x_iload_n (pc := 8) dX7_at_8 rfl ?_
  refine x_iadd (pc := 9) dX7_at_9 ?_
  refine x_il (pc := 10) (j := 8 * l + k) dX7_at_10 (by assumption) (by omega) (by omega) (by omega) ?_
  refine x_iret (pc := 11) dX7_at_11 rfl ⟨rfl, rfl, rfl⟩

set_option maxRecDepth 4000 in
theorem m_areWays {G : GL} {d : Nat} {hp : HP} {sz : Nat} {p N : Nat} (C : ModA hp p N) (hz : 615 ≤ sz) (hN : 1 ≤ N ∧ N ≤ 8) {x : Int} (hx : -2147483648 ≤ x ∧ x < 2147483648) : Ct G (d + 1) 0 0 mX7_areWays [vr 92, vi x] hp sz (Rd (some (vi (bz (decide (0 ≤ x ∧ x < 2 ^ (N - 1)))))) hp sz) := by
  show Ex _ _ _ _ _ _ [vr 92, vi x] _ _ _ _
  obtain ⟨C0, C1, C2, C3, C4, C5, C6, C7, C8, C11, C12, C13, C14, C15, C16, C17, C18, C19, C20, C21, C22, C23⟩ := id C
  have hob := C0.ob
  have hp7 := pw7 hN
  have hp0 : (0 : Int) < 2 ^ (N - 1) := Int.pow_pos (by decide)
  refine x_iload_n (pc := 0) dX7_areWays_0 rfl ?_
  refine x_iconst (pc := 1) dX7_areWays_1 ?_
  refine x_iconst (pc := 2) dX7_areWays_2 ?_
  refine x_aload_n (pc := 3) dX7_areWays_3 rfl ?_
  refine x_gf (pc := 4) dX7_areWays_4 fX7_93 (by assumption) (by omega) ?_
  refine x_iconst (pc := 7) dX7_areWays_7 ?_
  refine x_isub (pc := 8) dX7_areWays_8 ?_
  refine x_ishl1 (pc := 9) dX7_areWays_9 (by omega) ?_
  rw [show ((N : Int) - 1).toNat = N - 1 by omega]
  refine x_iconst (pc := 10) dX7_areWays_10 ?_
  refine x_isub (pc := 11) dX7_areWays_11 ?_
  refine x_t3 (pc := 12) dX7_areWays_12 wX7_in sX7_in kX7_96 (by decide) rfl (Nat.le_of_ble_eq_true rfl) (m_in hx (by omega) (by omega)) ?_
  refine x_zret (pc := 15) dX7_areWays_15 rfl (bz_01 _) ⟨by congr 3; exact decide_eq_decide.mpr ⟨fun h => ⟨h.1, by omega⟩, fun h => ⟨h.1, by omega⟩⟩, rfl, rfl⟩

set_option maxRecDepth 4000 in
theorem m_ways {G : GL} {d : Nat} {hp : HP} {sz : Nat} {p N : Nat} (C : ModA hp p N) (hz : 615 ≤ sz) (hN : 1 ≤ N ∧ N ≤ 8) {W : Nat → Nat} {S T : Nat → Int} (D : MdS hp W S T) {x : Int} (hx : -2147483648 ≤ x ∧ x < 2147483648) : Ct G (d + 2) 0 0 mX7_ways [vr 92, vi x] hp sz (Rd (some (vi (if 0 ≤ x ∧ x < 8 then (W x.toNat : Int) else -1))) hp sz) := by
  show Ex _ _ _ _ _ _ [vr 92, vi x] _ _ _ _
  obtain ⟨C0, C1, C2, C3, C4, C5, C6, C7, C8, C11, C12, C13, C14, C15, C16, C17, C18, C19, C20, C21, C22, C23⟩ := id C
  have hob := C0.ob
  obtain ⟨D1, D2, D3, D4⟩ := id D
  refine x_iload_n (pc := 0) dX7_ways_0 rfl ?_
  refine x_t1 (pc := 1) dX7_ways_1 wX7_isLaying sX7_isLaying kX7_104 (by decide) rfl (Nat.le_of_ble_eq_true rfl) (m_isLaying hx) ?_
  refine x_if_eq (pc := 4) (tgt := 16) dX7_ways_4 (by decide) (bz_rg _) (fun c4 => ?_) (fun c4 => ?_)
  · have d1 := bz_e c4
    refine x_iconst (pc := 16) dX7_ways_16 ?_
    refine x_iret (pc := 17) dX7_ways_17 rfl ⟨by first | rw [if_pos (by omega)] | rw [if_neg (by omega)], rfl, rfl⟩
  · have d1 := bz_n c4
    refine x_aload_n (pc := 7) dX7_ways_7 rfl ?_
    refine x_gf (pc := 8) dX7_ways_8 fX7_9 (by assumption) (by omega) ?_
    refine x_iload_n (pc := 11) dX7_ways_11 rfl ?_
    refine x_il (pc := 12) (j := x.toNat) dX7_ways_12 (by assumption) (by omega) (by omega) (by omega) ?_
    refine x_goto (pc := 13) (tgt := 17) dX7_ways_13 (by decide) ?_
    refine x_iret (pc := 17) dX7_ways_17 rfl ⟨by first | rw [if_pos (by omega)] | rw [if_neg (by omega)], rfl, rfl⟩

set_option maxRecDepth 4000 in
theorem m_size {G : GL} {d : Nat} {hp : HP} {sz : Nat} {p N : Nat} (C : ModA hp p N) (hz : 615 ≤ sz) (hN : 1 ≤ N ∧ N ≤ 8) {W : Nat → Nat} {S T : Nat → Int} (D : MdS hp W S T) {x : Int} (hx : -2147483648 ≤ x ∧ x < 2147483648) {y : Int} (hy : -2147483648 ≤ y ∧ y < 2147483648) : Ct G (d + 2) 0 0 mX7_size [vr 92, vi x, vi y] hp sz (Rd (some (vi (if 0 ≤ x ∧ x < 8 ∧ 0 ≤ y ∧ y < N then S (8 * x.toNat + y.toNat) else -1))) hp sz) := by
  show Ex _ _ _ _ _ _ [vr 92, vi x, vi y] _ _ _ _
  obtain ⟨C0, C1, C2, C3, C4, C5, C6, C7, C8, C11, C12, C13, C14, C15, C16, C17, C18, C19, C20, C21, C22, C23⟩ := id C
  have hob := C0.ob
  refine x_iload_n (pc := 0) dX7_size_0 rfl ?_
  refine x_t1 (pc := 1) dX7_size_1 wX7_isLaying sX7_isLaying kX7_104 (by decide) rfl (Nat.le_of_ble_eq_true rfl) (m_isLaying hx) ?_
  refine x_if_eq (pc := 4) (tgt := 24) dX7_size_4 (by decide) (bz_rg _) (fun c4 => ?_) (fun c4 => ?_)
  · have d1 := bz_e c4
    refine x_iconst (pc := 24) dX7_size_24 ?_
    refine x_iret (pc := 25) dX7_size_25 rfl (by first | exact ⟨by rw [if_pos (by omega)]; rfl, rfl, rfl⟩ | exact ⟨by rw [if_neg (by omega)], rfl, rfl⟩)
  · have d1 := bz_n c4
    refine x_aload_n (pc := 7) dX7_size_7 rfl ?_
    refine x_iload_n (pc := 8) dX7_size_8 rfl ?_
    refine x_w1 (pc := 9) dX7_size_9 wX7_isPost iX7_isPost kX7_136 (by decide) rfl (Nat.le_of_ble_eq_true rfl) (by assumption) (by omega) (m_isPost C hz hN hy) ?_
    refine x_if_eq (pc := 12) (tgt := 24) dX7_size_12 (by decide) (bz_rg _) (fun c12 => ?_) (fun c12 => ?_)
    · have d2 := bz_e c12
      refine x_iconst (pc := 24) dX7_size_24 ?_
      refine x_iret (pc := 25) dX7_size_25 rfl (by first | exact ⟨by rw [if_pos (by omega)]; rfl, rfl, rfl⟩ | exact ⟨by rw [if_neg (by omega)], rfl, rfl⟩)
    · have d2 := bz_n c12
      obtain ⟨l, rfl⟩ : ∃ l : Nat, x = (l : Int) := ⟨x.toNat, by omega⟩
      obtain ⟨k, rfl⟩ : ∃ k : Nat, y = (k : Int) := ⟨y.toNat, by omega⟩
      refine x_aload_n (pc := 15) dX7_size_15 rfl ?_
      refine x_iload_n (pc := 16) dX7_size_16 rfl ?_
      refine x_iload_n (pc := 17) dX7_size_17 rfl ?_
      refine x_w2 (pc := 18) dX7_size_18 wX7_at iX7_at kX7_118 (by decide) rfl (Nat.le_of_ble_eq_true rfl) (by assumption) (by omega) (m_at C hz hN D (l := l) (k := k) (by omega) (by omega)) ?_
      refine x_goto (pc := 21) (tgt := 25) dX7_size_21 (by decide) ?_
      refine x_iret (pc := 25) dX7_size_25 rfl (by first | exact ⟨by rw [if_pos (by omega)]; rfl, rfl, rfl⟩ | exact ⟨by rw [if_neg (by omega)], rfl, rfl⟩)

set_option maxRecDepth 4000 in
theorem m_count {G : GL} {d : Nat} {hp : HP} {sz : Nat} {p N : Nat} (C : ModA hp p N) (hz : 615 ≤ sz) (hN : 1 ≤ N ∧ N ≤ 8) {x : Int} (hx : -2147483648 ≤ x ∧ x < 2147483648) : Ct G d 0 0 mX7_count [vr 92, vi x] hp sz (Rd (some (vi (if x = 0 then (p : Int) else if x = 1 then (N : Int) else -1))) hp sz) := by
  show Ex _ _ _ _ _ _ [vr 92, vi x] _ _ _ _
  obtain ⟨C0, C1, C2, C3, C4, C5, C6, C7, C8, C11, C12, C13, C14, C15, C16, C17, C18, C19, C20, C21, C22, C23⟩ := id C
  have hob := C0.ob
  refine x_iload_n (pc := 0) dX7_count_0 rfl ?_
  refine x_if_ne (pc := 1) (tgt := 11) dX7_count_1 (by decide) (by omega) (fun c1 => ?_) (fun c1 => ?_)
  · refine x_iload_n (pc := 11) dX7_count_11 rfl ?_
    refine x_iconst (pc := 12) dX7_count_12 ?_
    refine x_icmp_ne (pc := 13) (tgt := 23) dX7_count_13 (by decide) (by omega) (by omega) (fun c13 => ?_) (fun c13 => ?_)
    · refine x_iconst (pc := 23) dX7_count_23 ?_
      refine x_iret (pc := 24) dX7_count_24 rfl (by first | exact ⟨by rw [if_pos (by omega)], rfl, rfl⟩ | exact ⟨by rw [if_neg (by omega), if_pos (by omega)], rfl, rfl⟩ | exact ⟨by rw [if_neg (by omega), if_neg (by omega)], rfl, rfl⟩)
    · refine x_aload_n (pc := 16) dX7_count_16 rfl ?_
      refine x_gf (pc := 17) dX7_count_17 fX7_93 (by assumption) (by omega) ?_
      refine x_goto (pc := 20) (tgt := 24) dX7_count_20 (by decide) ?_
      refine x_iret (pc := 24) dX7_count_24 rfl (by first | exact ⟨by rw [if_pos (by omega)], rfl, rfl⟩ | exact ⟨by rw [if_neg (by omega), if_pos (by omega)], rfl, rfl⟩ | exact ⟨by rw [if_neg (by omega), if_neg (by omega)], rfl, rfl⟩)
  · refine x_aload_n (pc := 4) dX7_count_4 rfl ?_
    refine x_gf (pc := 5) dX7_count_5 fX7_80 (by assumption) (by omega) ?_
    refine x_goto (pc := 8) (tgt := 24) dX7_count_8 (by decide) ?_
    refine x_iret (pc := 24) dX7_count_24 rfl (by first | exact ⟨by rw [if_pos (by omega)], rfl, rfl⟩ | exact ⟨by rw [if_neg (by omega), if_pos (by omega)], rfl, rfl⟩ | exact ⟨by rw [if_neg (by omega), if_neg (by omega)], rfl, rfl⟩)

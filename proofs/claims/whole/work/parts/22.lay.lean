set_option maxRecDepth 4000 in
theorem t_max {G : GL} {d : Nat} {hp : HP} {sz : Nat} {x y : Int} (hx : -2147483648 ≤ x ∧ x < 2147483648) (hy : -2147483648 ≤ y ∧ y < 2147483648) : Ct G d 0 0 mJ9_max_7cf53 [vi x, vi y] hp sz (Rd (some (vi (max x y))) hp sz) := by
  show Ex _ _ _ _ _ _ [vi x, vi y] _ _ _ _
  refine x_iload_n (pc := 0) dJ9_max_7cf53_0 rfl ?_
  refine x_iload_n (pc := 1) dJ9_max_7cf53_1 rfl ?_
  refine x_icmp_lt (pc := 2) (tgt := 9) dJ9_max_7cf53_2 (by decide) (by omega) (by omega) (fun c2 => ?_) (fun c2 => ?_)
  · refine x_iload_n (pc := 9) dJ9_max_7cf53_9 rfl ?_
    refine x_iret (pc := 10) dJ9_max_7cf53_10 rfl ⟨by first | rw [Int.max_eq_right (by omega)] | rw [Int.max_eq_left (by omega)], rfl, rfl⟩
  · refine x_iload_n (pc := 5) dJ9_max_7cf53_5 rfl ?_
    refine x_goto (pc := 6) (tgt := 10) dJ9_max_7cf53_6 (by decide) ?_
    refine x_iret (pc := 10) dJ9_max_7cf53_10 rfl ⟨by first | rw [Int.max_eq_right (by omega)] | rw [Int.max_eq_left (by omega)], rfl, rfl⟩

set_option maxRecDepth 4000 in
theorem t_min {G : GL} {d : Nat} {hp : HP} {sz : Nat} {x y : Int} (hx : -2147483648 ≤ x ∧ x < 2147483648) (hy : -2147483648 ≤ y ∧ y < 2147483648) : Ct G d 0 0 mJ9_min_7cf53 [vi x, vi y] hp sz (Rd (some (vi (min x y))) hp sz) := by
  show Ex _ _ _ _ _ _ [vi x, vi y] _ _ _ _
  refine x_iload_n (pc := 0) dJ9_min_7cf53_0 rfl ?_
  refine x_iload_n (pc := 1) dJ9_min_7cf53_1 rfl ?_
  refine x_icmp_gt (pc := 2) (tgt := 9) dJ9_min_7cf53_2 (by decide) (by omega) (by omega) (fun c2 => ?_) (fun c2 => ?_)
  · refine x_iload_n (pc := 9) dJ9_min_7cf53_9 rfl ?_
    refine x_iret (pc := 10) dJ9_min_7cf53_10 rfl ⟨by first | rw [Int.min_eq_right (by omega)] | rw [Int.min_eq_left (by omega)], rfl, rfl⟩
  · refine x_iload_n (pc := 5) dJ9_min_7cf53_5 rfl ?_
    refine x_goto (pc := 6) (tgt := 10) dJ9_min_7cf53_6 (by decide) ?_
    refine x_iret (pc := 10) dJ9_min_7cf53_10 rfl ⟨by first | rw [Int.min_eq_right (by omega)] | rw [Int.min_eq_left (by omega)], rfl, rfl⟩

set_option maxRecDepth 4000 in
theorem t_abs {G : GL} {d : Nat} {hp : HP} {sz : Nat} {x : Int} (hx : -2147483648 < x ∧ x < 2147483648) : Ct G d 0 0 mJ9_abs_0f7a4 [vi x] hp sz (Rd (some (vi (x.natAbs : Int))) hp sz) := by
  show Ex _ _ _ _ _ _ [vi x] _ _ _ _
  refine x_iload_n (pc := 0) dJ9_abs_0f7a4_0 rfl ?_
  refine x_if_ge (pc := 1) (tgt := 9) dJ9_abs_0f7a4_1 (by decide) (by omega) (fun c1 => ?_) (fun c1 => ?_)
  · refine x_iload_n (pc := 9) dJ9_abs_0f7a4_9 rfl ?_
    refine x_iret (pc := 10) dJ9_abs_0f7a4_10 rfl ⟨by first | rw [show ((x.natAbs : Nat) : Int) = x by omega] | rw [show ((x.natAbs : Nat) : Int) = -x by omega], rfl, rfl⟩
  · refine x_iload_n (pc := 4) dJ9_abs_0f7a4_4 rfl ?_
    refine x_ineg (pc := 5) dJ9_abs_0f7a4_5 ?_
    refine x_goto (pc := 6) (tgt := 10) dJ9_abs_0f7a4_6 (by decide) ?_
    refine x_iret (pc := 10) dJ9_abs_0f7a4_10 rfl ⟨by first | rw [show ((x.natAbs : Nat) : Int) = x by omega] | rw [show ((x.natAbs : Nat) : Int) = -x by omega], rfl, rfl⟩

set_option maxRecDepth 4000 in
theorem t_isLeft {G : GL} {d : Nat} {hp : HP} {sz : Nat} {a : Nat} {s n : Nat → Int} {w : Nat} (L : Lay hp a s n w) (hz : a + 2 < sz) {k : Nat} (hk : k < 8) (hw : w < 128) : Ct G d 0 0 mX0_isLeft [vr a, vi k] hp sz (Rd (some (vi (bz (w.testBit k)))) hp sz) := by
  show Ex _ _ _ _ _ _ [vr a, vi k] _ _ _ _
  obtain ⟨L1, L2, L3, L4, L5⟩ := id L
  refine x_aload_n (pc := 0) dX0_isLeft_0 rfl ?_
  refine x_gf (pc := 1) dX0_isLeft_1 fX0_18 (by assumption) (by omega) ?_
  refine x_iload_n (pc := 4) dX0_isLeft_4 rfl ?_
  refine x_ishr (pc := 5) dX0_isLeft_5 (by omega) (by omega) ?_
  refine x_iconst (pc := 6) dX0_isLeft_6 ?_
  refine x_iand 1 (pc := 7) dX0_isLeft_7 (by decide) (by decide +kernel) ?_
  rw [lb_eq]
  refine x_iconst (pc := 8) dX0_isLeft_8 ?_
  refine x_icmp_ne (pc := 9) (tgt := 16) dX0_isLeft_9 (by decide) (by rcases bz_01 (w.testBit k) with h | h <;> rw [h] <;> decide) (by omega) (fun c9 => ?_) (fun c9 => ?_)
  · have h9 : w.testBit k = false := by cases hh : w.testBit k <;> simp_all [bz]
    refine x_iconst (pc := 16) dX0_isLeft_16 ?_
    refine x_zret (pc := 17) dX0_isLeft_17 rfl (by omega) ⟨by rw [h9]; rfl, rfl, rfl⟩
  · have h9 : w.testBit k = true := by cases hh : w.testBit k <;> simp_all [bz]
    refine x_iconst (pc := 12) dX0_isLeft_12 ?_
    refine x_goto (pc := 13) (tgt := 17) dX0_isLeft_13 (by decide) ?_
    refine x_zret (pc := 17) dX0_isLeft_17 rfl (by omega) ⟨by rw [h9]; rfl, rfl, rfl⟩

set_option maxRecDepth 4000 in
theorem t_source {G : GL} {d : Nat} {hp : HP} {sz : Nat} {a : Nat} {s n : Nat → Int} {w : Nat} (L : Lay hp a s n w) (hz : a + 2 < sz) {k : Nat} (hk : k < 7) (hw : w < 128) : Ct G (d + 1) 0 0 mX0_source [vr a, vi k] hp sz (Rd (some (vi ((if w.testBit k then k + 1 else k : Nat) : Int))) hp sz) := by
  show Ex _ _ _ _ _ _ [vr a, vi k] _ _ _ _
  obtain ⟨L1, L2, L3, L4, L5⟩ := id L
  refine x_aload_n (pc := 0) dX0_source_0 rfl ?_
  refine x_iload_n (pc := 1) dX0_source_1 rfl ?_
  refine x_w1 (pc := 2) dX0_source_2 wX0_isLeft iX0_isLeft kX0_34 (by decide) rfl (Nat.le_of_ble_eq_true rfl) L.ob (by omega) (t_isLeft L hz (by omega) hw) ?_
  refine x_if_eq (pc := 5) (tgt := 14) dX0_source_5 (by decide) (by rcases bz_01 (w.testBit k) with h | h <;> rw [h] <;> decide) (fun c5 => ?_) (fun c5 => ?_)
  · have h9 : w.testBit k = false := by cases hh : w.testBit k <;> simp_all [bz]
    refine x_iload_n (pc := 14) dX0_source_14 rfl ?_
    refine x_iret (pc := 15) dX0_source_15 rfl ⟨by rw [h9]; rfl, rfl, rfl⟩
  · have h9 : w.testBit k = true := by cases hh : w.testBit k <;> simp_all [bz]
    refine x_iload_n (pc := 8) dX0_source_8 rfl ?_
    refine x_iconst (pc := 9) dX0_source_9 ?_
    refine x_iadd (pc := 10) dX0_source_10 ?_
    refine x_goto (pc := 11) (tgt := 15) dX0_source_11 (by decide) ?_
    refine x_iret (pc := 15) dX0_source_15 rfl ⟨by rw [h9]; rfl, rfl, rfl⟩

set_option maxRecDepth 4000 in
theorem t_target {G : GL} {d : Nat} {hp : HP} {sz : Nat} {a : Nat} {s n : Nat → Int} {w : Nat} (L : Lay hp a s n w) (hz : a + 2 < sz) {k : Nat} (hk : k < 7) (hw : w < 128) : Ct G (d + 1) 0 0 mX0_target [vr a, vi k] hp sz (Rd (some (vi ((if w.testBit k then k else k + 1 : Nat) : Int))) hp sz) := by
  show Ex _ _ _ _ _ _ [vr a, vi k] _ _ _ _
  obtain ⟨L1, L2, L3, L4, L5⟩ := id L
  refine x_aload_n (pc := 0) dX0_target_0 rfl ?_
  refine x_iload_n (pc := 1) dX0_target_1 rfl ?_
  refine x_w1 (pc := 2) dX0_target_2 wX0_isLeft iX0_isLeft kX0_34 (by decide) rfl (Nat.le_of_ble_eq_true rfl) L.ob (by omega) (t_isLeft L hz (by omega) hw) ?_
  refine x_if_eq (pc := 5) (tgt := 12) dX0_target_5 (by decide) (by rcases bz_01 (w.testBit k) with h | h <;> rw [h] <;> decide) (fun c5 => ?_) (fun c5 => ?_)
  · have h9 : w.testBit k = false := by cases hh : w.testBit k <;> simp_all [bz]
    refine x_iload_n (pc := 12) dX0_target_12 rfl ?_
    refine x_iconst (pc := 13) dX0_target_13 ?_
    refine x_iadd (pc := 14) dX0_target_14 ?_
    refine x_iret (pc := 15) dX0_target_15 rfl ⟨by rw [h9]; rfl, rfl, rfl⟩
  · have h9 : w.testBit k = true := by cases hh : w.testBit k <;> simp_all [bz]
    refine x_iload_n (pc := 8) dX0_target_8 rfl ?_
    refine x_goto (pc := 9) (tgt := 15) dX0_target_9 (by decide) ?_
    refine x_iret (pc := 15) dX0_target_15 rfl ⟨by rw [h9]; rfl, rfl, rfl⟩

set_option maxRecDepth 4000 in
theorem t_rowsOf {G : GL} {d : Nat} {hp : HP} {sz : Nat} {a : Nat} {s n : Nat → Int} {w : Nat} (L : Lay hp a s n w) (hz : a + 2 < sz) {k : Nat} (hk : k < 7) (hw : w < 128) : Ct G (d + 2) 0 0 mX0_rowsOf [vr a, vi k] hp sz (Rd (some (vi (s (if w.testBit k then k else k + 1)))) hp sz) := by
  show Ex _ _ _ _ _ _ [vr a, vi k] _ _ _ _
  obtain ⟨L1, L2, L3, L4, L5⟩ := id L
  refine x_aload_n (pc := 0) dX0_rowsOf_0 rfl ?_
  refine x_gf (pc := 1) dX0_rowsOf_1 fX0_9 (by assumption) (by omega) ?_
  refine x_aload_n (pc := 4) dX0_rowsOf_4 rfl ?_
  refine x_iload_n (pc := 5) dX0_rowsOf_5 rfl ?_
  refine x_w1 (pc := 6) dX0_rowsOf_6 wX0_target iX0_target kX0_38 (by decide) rfl (Nat.le_of_ble_eq_true rfl) L.ob (by omega) (t_target L hz hk hw) ?_
  refine x_il (pc := 9) dX0_rowsOf_9 (by assumption) (by omega) rfl (by split <;> omega) ?_
  refine x_iret (pc := 10) dX0_rowsOf_10 rfl ⟨rfl, rfl, rfl⟩

set_option maxRecDepth 4000 in
theorem t_columnsOf {G : GL} {d : Nat} {hp : HP} {sz : Nat} {a : Nat} {s n : Nat → Int} {w : Nat} (L : Lay hp a s n w) (hz : a + 2 < sz) {k : Nat} (hk : k < 7) (hw : w < 128) : Ct G (d + 2) 0 0 mX0_columnsOf [vr a, vi k] hp sz (Rd (some (vi (s (if w.testBit k then k + 1 else k)))) hp sz) := by
  show Ex _ _ _ _ _ _ [vr a, vi k] _ _ _ _
  obtain ⟨L1, L2, L3, L4, L5⟩ := id L
  refine x_aload_n (pc := 0) dX0_columnsOf_0 rfl ?_
  refine x_gf (pc := 1) dX0_columnsOf_1 fX0_9 (by assumption) (by omega) ?_
  refine x_aload_n (pc := 4) dX0_columnsOf_4 rfl ?_
  refine x_iload_n (pc := 5) dX0_columnsOf_5 rfl ?_
  refine x_w1 (pc := 6) dX0_columnsOf_6 wX0_source iX0_source kX0_42 (by decide) rfl (Nat.le_of_ble_eq_true rfl) L.ob (by omega) (t_source L hz hk hw) ?_
  refine x_il (pc := 9) dX0_columnsOf_9 (by assumption) (by omega) rfl (by split <;> omega) ?_
  refine x_iret (pc := 10) dX0_columnsOf_10 rfl ⟨rfl, rfl, rfl⟩

set_option maxRecDepth 4000 in
theorem t_number {G : GL} {d : Nat} {hp : HP} {sz : Nat} {a : Nat} {s n : Nat → Int} {w : Nat} (L : Lay hp a s n w) (hz : a + 2 < sz) {k r c : Nat} (hk : k < 7) (hr : r < 4) (hc : c < 4) : Ct G d 0 0 mX0_number [vr a, vi k, vi r, vi c] hp sz (Rd (some (vi (n (k * 16 + r * 4 + c)))) hp sz) := by
  show Ex _ _ _ _ _ _ [vr a, vi k, vi r, vi c] _ _ _ _
  obtain ⟨L1, L2, L3, L4, L5⟩ := id L
  refine x_aload_n (pc := 0) dX0_number_0 rfl ?_
  refine x_gf (pc := 1) dX0_number_1 fX0_15 (by assumption) (by omega) ?_
  refine x_iload_n (pc := 4) dX0_number_4 rfl ?_
  refine x_bipush (pc := 5) dX0_number_5 (by decide) ?_
  refine x_imul (pc := 7) dX0_number_7 ?_
  refine x_iload_n (pc := 8) dX0_number_8 rfl ?_
  refine x_iconst (pc := 9) dX0_number_9 ?_
  refine x_imul (pc := 10) dX0_number_10 ?_
  refine x_iadd (pc := 11) dX0_number_11 ?_
  refine x_iload_n (pc := 12) dX0_number_12 rfl ?_
  refine x_iadd (pc := 13) dX0_number_13 ?_
  refine x_il (pc := 14) (j := k * 16 + r * 4 + c) dX0_number_14 (by assumption) (by omega) (by omega) (by omega) ?_
  refine x_iret (pc := 15) dX0_number_15 rfl ⟨rfl, rfl, rfl⟩

set_option maxRecDepth 4000 in
theorem t_put {G : GL} {d : Nat} {hp : HP} {sz : Nat} {a : Nat} {s n : Nat → Int} {w : Nat} (L : Lay hp a s n w) (hz : a + 2 < sz) {k r c : Nat} {x : Int} (hk : k < 7) (hr : r < 4) (hc : c < 4) : Ct G d 0 0 mX0_put [vr a, vi k, vi r, vi c, vi x] hp sz (Vd (fun h => h = up hp (a + 2) (ar 0 112 (up n (k * 16 + r * 4 + c) x))) sz) := by
  show Ex _ _ _ _ _ _ [vr a, vi k, vi r, vi c, vi x] _ _ _ _
  obtain ⟨L1, L2, L3, L4, L5⟩ := id L
  refine x_aload_n (pc := 0) dX0_put_0 rfl ?_
  refine x_gf (pc := 1) dX0_put_1 fX0_15 (by assumption) (by omega) ?_
  refine x_iload_n (pc := 4) dX0_put_4 rfl ?_
  refine x_bipush (pc := 5) dX0_put_5 (by decide) ?_
  refine x_imul (pc := 7) dX0_put_7 ?_
  refine x_iload_n (pc := 8) dX0_put_8 rfl ?_
  refine x_iconst (pc := 9) dX0_put_9 ?_
  refine x_imul (pc := 10) dX0_put_10 ?_
  refine x_iadd (pc := 11) dX0_put_11 ?_
  refine x_iload_n (pc := 12) dX0_put_12 rfl ?_
  refine x_iadd (pc := 13) dX0_put_13 ?_
  refine x_iload (pc := 14) dX0_put_14 rfl ?_
  refine x_is (pc := 16) (j := k * 16 + r * 4 + c) dX0_put_16 (by assumption) (by omega) (by omega) (by omega) ?_
  refine x_vret (pc := 17) dX0_put_17 rfl ⟨rfl, rfl, rfl⟩

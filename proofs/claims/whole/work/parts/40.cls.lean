theorem bz_rg (b : Bool) : -2147483648 ≤ bz b ∧ bz b < 2147483648 := by cases b <;> decide
theorem bz_e {P : Prop} [Decidable P] (h : bz (decide P) = 0) : ¬ P := fun hp => by simp [bz, hp] at h
theorem bz_n {P : Prop} [Decidable P] (h : bz (decide P) ≠ 0) : P := Classical.byContradiction fun hp => h (by simp [bz, hp])
theorem bz1 {P : Prop} [Decidable P] (h : P) : (1 : Int) = bz (decide P) := by simp [bz, h]
theorem bz0 {P : Prop} [Decidable P] (h : ¬ P) : (0 : Int) = bz (decide P) := by simp [bz, h]
def Rg (x : Int) : Prop := -2147483648 ≤ x ∧ x < 2147483648
/-- the SpanLoom at 0 -/
def ClsA (hp : HP) (p N : Nat) : Prop := fld hp 0 6 0 (vi p) ∧ fld hp 0 6 1 (vi N) ∧ fld hp 0 6 2 (vr 1) ∧ fld hp 0 6 3 (vr 26) ∧ fld hp 0 6 4 (vr 29) ∧ fld hp 0 6 5 (vr 36) ∧ fld hp 0 6 6 (vr 76) ∧ fld hp 0 6 7 (vr 79) ∧ fld hp 0 6 8 (vr 82) ∧ fld hp 0 6 9 (vr 87) ∧ ∃ g, hp 1 = rr 4 8 g ∧ ∀ l, l < 8 → g l = some (2 + 3 * l)
theorem ClsA.keep {hp hp' : HP} {p N : Nat} (h : ClsA hp p N) (e0 : hp' 0 = hp 0) (e1 : hp' 1 = hp 1) : ClsA hp' p N := by
  obtain ⟨h1, h2, h3, h4, h5, h6, h7, h8, h9, h10, g, h11, h12⟩ := h
  exact ⟨h1.keep e0, h2.keep e0, h3.keep e0, h4.keep e0, h5.keep e0, h6.keep e0, h7.keep e0, h8.keep e0, h9.keep e0, h10.keep e0, g, e1.trans h11, h12⟩
def LysA (hp : HP) (S T : Nat → Nat → Int) (W : Nat → Nat) : Prop := ∀ l, l < 8 → Lay hp (2 + 3 * l) (S l) (T l) (W l) ∧ W l < 128

set_option maxRecDepth 4000 in
theorem t_isBelow {G : GL} {d : Nat} {hp : HP} {sz : Nat}  {x : Int} (hx : -2147483648 ≤ x ∧ x < 2147483648) {y : Int} (hy : -2147483648 ≤ y ∧ y < 2147483648) : Ct G d 0 0 mX6_isBelow [vi x, vi y] hp sz (Rd (some (vi (bz (decide (0 ≤ x ∧ x < y))))) hp sz) := by
  show Ex _ _ _ _ _ _ [vi x, vi y] _ _ _ _
  refine x_iload_n (pc := 0) dX6_isBelow_0 rfl ?_
  refine x_if_lt (pc := 1) (tgt := 13) dX6_isBelow_1 (by decide) (by omega) (fun c1 => ?_) (fun c1 => ?_)
  · refine x_iconst (pc := 13) dX6_isBelow_13 ?_
    refine x_zret (pc := 14) dX6_isBelow_14 rfl (by omega) ⟨by first | rw [← bz1 (by omega)] | rw [← bz0 (by omega)], rfl, rfl⟩
  · refine x_iload_n (pc := 4) dX6_isBelow_4 rfl ?_
    refine x_iload_n (pc := 5) dX6_isBelow_5 rfl ?_
    refine x_icmp_ge (pc := 6) (tgt := 13) dX6_isBelow_6 (by decide) (by omega) (by omega) (fun c6 => ?_) (fun c6 => ?_)
    · refine x_iconst (pc := 13) dX6_isBelow_13 ?_
      refine x_zret (pc := 14) dX6_isBelow_14 rfl (by omega) ⟨by first | rw [← bz1 (by omega)] | rw [← bz0 (by omega)], rfl, rfl⟩
    · refine x_iconst (pc := 9) dX6_isBelow_9 ?_
      refine x_goto (pc := 10) (tgt := 14) dX6_isBelow_10 (by decide) ?_
      refine x_zret (pc := 14) dX6_isBelow_14 rfl (by omega) ⟨by first | rw [← bz1 (by omega)] | rw [← bz0 (by omega)], rfl, rfl⟩

set_option maxRecDepth 4000 in
theorem t_isLaying {G : GL} {d : Nat} {hp : HP} {sz : Nat} {p N : Nat} (C : ClsA hp p N) (hz : 92 ≤ sz) (hN : 1 ≤ N ∧ N ≤ 8) {x : Int} (hx : -2147483648 ≤ x ∧ x < 2147483648) : Ct G (d + 1) 0 0 mX6_isLaying [vr 0, vi x] hp sz (Rd (some (vi (bz (decide (0 ≤ x ∧ x < 8))))) hp sz) := by
  show Ex _ _ _ _ _ _ [vr 0, vi x] _ _ _ _
  obtain ⟨C0, C1, C2, C3, C4, C5, C6, C7, C8, C9, g, gA, gB⟩ := id C
  have hob := C0.ob
  refine x_iload_n (pc := 0) dX6_isLaying_0 rfl ?_
  refine x_bipush (pc := 1) dX6_isLaying_1 (by decide) ?_
  refine x_t2 (pc := 3) dX6_isLaying_3 wX6_isBelow sX6_isBelow kX6_148 (by decide) rfl (Nat.le_of_ble_eq_true rfl) (t_isBelow hx (by omega)) ?_
  refine x_zret (pc := 6) dX6_isLaying_6 rfl (bz_01 _) ⟨rfl, rfl, rfl⟩

set_option maxRecDepth 4000 in
theorem t_isPost {G : GL} {d : Nat} {hp : HP} {sz : Nat} {p N : Nat} (C : ClsA hp p N) (hz : 92 ≤ sz) (hN : 1 ≤ N ∧ N ≤ 8) {x : Int} (hx : -2147483648 ≤ x ∧ x < 2147483648) : Ct G (d + 1) 0 0 mX6_isPost [vr 0, vi x] hp sz (Rd (some (vi (bz (decide (0 ≤ x ∧ x < N))))) hp sz) := by
  show Ex _ _ _ _ _ _ [vr 0, vi x] _ _ _ _
  obtain ⟨C0, C1, C2, C3, C4, C5, C6, C7, C8, C9, g, gA, gB⟩ := id C
  have hob := C0.ob
  refine x_iload_n (pc := 0) dX6_isPost_0 rfl ?_
  refine x_aload_n (pc := 1) dX6_isPost_1 rfl ?_
  refine x_gf (pc := 2) dX6_isPost_2 fX6_26 (by assumption) (by omega) ?_
  refine x_t2 (pc := 5) dX6_isPost_5 wX6_isBelow sX6_isBelow kX6_148 (by decide) rfl (Nat.le_of_ble_eq_true rfl) (t_isBelow hx (by omega)) ?_
  refine x_zret (pc := 8) dX6_isPost_8 rfl (bz_01 _) ⟨rfl, rfl, rfl⟩

set_option maxRecDepth 4000 in
theorem t_isArrow {G : GL} {d : Nat} {hp : HP} {sz : Nat} {p N : Nat} (C : ClsA hp p N) (hz : 92 ≤ sz) (hN : 1 ≤ N ∧ N ≤ 8) {x : Int} (hx : -2147483648 ≤ x ∧ x < 2147483648) : Ct G (d + 1) 0 0 mX6_isArrow [vr 0, vi x] hp sz (Rd (some (vi (bz (decide (0 ≤ x ∧ x < (N : Int) - 1))))) hp sz) := by
  show Ex _ _ _ _ _ _ [vr 0, vi x] _ _ _ _
  obtain ⟨C0, C1, C2, C3, C4, C5, C6, C7, C8, C9, g, gA, gB⟩ := id C
  have hob := C0.ob
  refine x_iload_n (pc := 0) dX6_isArrow_0 rfl ?_
  refine x_aload_n (pc := 1) dX6_isArrow_1 rfl ?_
  refine x_gf (pc := 2) dX6_isArrow_2 fX6_26 (by assumption) (by omega) ?_
  refine x_iconst (pc := 5) dX6_isArrow_5 ?_
  refine x_isub (pc := 6) dX6_isArrow_6 ?_
  refine x_t2 (pc := 7) dX6_isArrow_7 wX6_isBelow sX6_isBelow kX6_148 (by decide) rfl (Nat.le_of_ble_eq_true rfl) (t_isBelow hx (by omega)) ?_
  refine x_zret (pc := 10) dX6_isArrow_10 rfl (bz_01 _) ⟨rfl, rfl, rfl⟩

set_option maxRecDepth 4000 in
theorem t_isSpan {G : GL} {d : Nat} {hp : HP} {sz : Nat} {p N : Nat} (C : ClsA hp p N) (hz : 92 ≤ sz) (hN : 1 ≤ N ∧ N ≤ 8) {x : Int} (hx : -2147483648 ≤ x ∧ x < 2147483648) {y : Int} (hy : -2147483648 ≤ y ∧ y < 2147483648) : Ct G (d + 2) 0 0 mX6_isSpan [vr 0, vi x, vi y] hp sz (Rd (some (vi (bz (decide (0 ≤ x ∧ x ≤ y ∧ y < N))))) hp sz) := by
  show Ex _ _ _ _ _ _ [vr 0, vi x, vi y] _ _ _ _
  obtain ⟨C0, C1, C2, C3, C4, C5, C6, C7, C8, C9, g, gA, gB⟩ := id C
  have hob := C0.ob
  refine x_aload_n (pc := 0) dX6_isSpan_0 rfl ?_
  refine x_iload_n (pc := 1) dX6_isSpan_1 rfl ?_
  refine x_w1 (pc := 2) dX6_isSpan_2 wX6_isPost iX6_isPost kX6_117 (by decide) rfl (Nat.le_of_ble_eq_true rfl) (by assumption) (by omega) (t_isPost C hz hN hx) ?_
  refine x_if_eq (pc := 5) (tgt := 25) dX6_isSpan_5 (by decide) (bz_rg _) (fun c5 => ?_) (fun c5 => ?_)
  · have d1 := bz_e c5
    refine x_iconst (pc := 25) dX6_isSpan_25 ?_
    refine x_zret (pc := 26) dX6_isSpan_26 rfl (by omega) ⟨by first | rw [← bz1 (by omega)] | rw [← bz0 (by omega)], rfl, rfl⟩
  · have d1 := bz_n c5
    refine x_aload_n (pc := 8) dX6_isSpan_8 rfl ?_
    refine x_iload_n (pc := 9) dX6_isSpan_9 rfl ?_
    refine x_w1 (pc := 10) dX6_isSpan_10 wX6_isPost iX6_isPost kX6_117 (by decide) rfl (Nat.le_of_ble_eq_true rfl) (by assumption) (by omega) (t_isPost C hz hN hy) ?_
    refine x_if_eq (pc := 13) (tgt := 25) dX6_isSpan_13 (by decide) (bz_rg _) (fun c13 => ?_) (fun c13 => ?_)
    · have d2 := bz_e c13
      refine x_iconst (pc := 25) dX6_isSpan_25 ?_
      refine x_zret (pc := 26) dX6_isSpan_26 rfl (by omega) ⟨by first | rw [← bz1 (by omega)] | rw [← bz0 (by omega)], rfl, rfl⟩
    · have d2 := bz_n c13
      refine x_iload_n (pc := 16) dX6_isSpan_16 rfl ?_
      refine x_iload_n (pc := 17) dX6_isSpan_17 rfl ?_
      refine x_icmp_gt (pc := 18) (tgt := 25) dX6_isSpan_18 (by decide) (by omega) (by omega) (fun c18 => ?_) (fun c18 => ?_)
      · refine x_iconst (pc := 25) dX6_isSpan_25 ?_
        refine x_zret (pc := 26) dX6_isSpan_26 rfl (by omega) ⟨by first | rw [← bz1 (by omega)] | rw [← bz0 (by omega)], rfl, rfl⟩
      · refine x_iconst (pc := 21) dX6_isSpan_21 ?_
        refine x_goto (pc := 22) (tgt := 26) dX6_isSpan_22 (by decide) ?_
        refine x_zret (pc := 26) dX6_isSpan_26 rfl (by omega) ⟨by first | rw [← bz1 (by omega)] | rw [← bz0 (by omega)], rfl, rfl⟩

set_option maxRecDepth 4000 in
theorem t_areWays {G : GL} {d : Nat} {hp : HP} {sz : Nat} {p N : Nat} (C : ClsA hp p N) (hz : 92 ≤ sz) (hN : 1 ≤ N ∧ N ≤ 8) {x : Int} (hx : -2147483648 ≤ x ∧ x < 2147483648) : Ct G d 0 0 mX6_areWays [vr 0, vi x] hp sz (Rd (some (vi (bz (decide (0 ≤ x ∧ x < 2 ^ (N - 1)))))) hp sz) := by
  show Ex _ _ _ _ _ _ [vr 0, vi x] _ _ _ _
  obtain ⟨C0, C1, C2, C3, C4, C5, C6, C7, C8, C9, g, gA, gB⟩ := id C
  have hob := C0.ob
  refine x_iload_n (pc := 0) dX6_areWays_0 rfl ?_
  refine x_if_lt (pc := 1) (tgt := 19) dX6_areWays_1 (by decide) (by omega) (fun c1 => ?_) (fun c1 => ?_)
  · refine x_iconst (pc := 19) dX6_areWays_19 ?_
    refine x_zret (pc := 20) dX6_areWays_20 rfl (by omega) ⟨by first | rw [← bz1 (by omega)] | rw [← bz0 (by omega)], rfl, rfl⟩
  · refine x_iload_n (pc := 4) dX6_areWays_4 rfl ?_
    refine x_aload_n (pc := 5) dX6_areWays_5 rfl ?_
    refine x_gf (pc := 6) dX6_areWays_6 fX6_26 (by assumption) (by omega) ?_
    refine x_iconst (pc := 9) dX6_areWays_9 ?_
    refine x_isub (pc := 10) dX6_areWays_10 ?_
    refine x_ishr (pc := 11) dX6_areWays_11 (by omega) (by omega) ?_
    rw [show ((N : Int) - 1).toNat = N - 1 by omega]
    have hpw : (0 : Int) < 2 ^ (N - 1) := Int.pow_pos (by decide)
    have hle := Int.ediv_le_self (2 ^ (N - 1)) (show 0 ≤ x by omega)
    have hge := Int.ediv_nonneg (show 0 ≤ x by omega) (Int.le_of_lt hpw)
    refine x_if_ne (pc := 12) (tgt := 19) dX6_areWays_12 (by decide) (by omega) (fun c12 => ?_) (fun c12 => ?_)
    · have d1 : ¬ x < 2 ^ (N - 1) := fun h => c12 (Int.ediv_eq_zero_of_lt (by omega) h)
      refine x_iconst (pc := 19) dX6_areWays_19 ?_
      refine x_zret (pc := 20) dX6_areWays_20 rfl (by omega) ⟨by first | rw [← bz1 (by omega)] | rw [← bz0 (by omega)], rfl, rfl⟩
    · have d1 : x < 2 ^ (N - 1) := by
        have := Int.lt_ediv_add_one_mul_self x hpw
        rw [c12] at this
        omega
      refine x_iconst (pc := 15) dX6_areWays_15 ?_
      refine x_goto (pc := 16) (tgt := 20) dX6_areWays_16 (by decide) ?_
      refine x_zret (pc := 20) dX6_areWays_20 rfl (by omega) ⟨by first | rw [← bz1 (by omega)] | rw [← bz0 (by omega)], rfl, rfl⟩

set_option maxRecDepth 4000 in
theorem t_sizeIn {G : GL} {d : Nat} {hp : HP} {sz : Nat} {x : Int} (hx : 0 ≤ x ∧ x < 2147483648) {k : Nat} (hk : k < 8) : Ct G d 0 0 mX6_sizeIn [vi x, vi k] hp sz (Rd (some (vi ((x / 2 ^ (3 * k)) % 8))) hp sz) := by
  show Ex _ _ _ _ _ _ [vi x, vi k] _ _ _ _
  refine x_iload_n (pc := 0) dX6_sizeIn_0 rfl ?_
  refine x_iconst (pc := 1) dX6_sizeIn_1 ?_
  refine x_iload_n (pc := 2) dX6_sizeIn_2 rfl ?_
  refine x_imul (pc := 3) dX6_sizeIn_3 ?_
  refine x_ishr (pc := 4) dX6_sizeIn_4 (by omega) (by omega) ?_
  refine x_bipush (pc := 5) dX6_sizeIn_5 (by decide) ?_
  refine x_iand 3 (pc := 7) dX6_sizeIn_7 (by decide) (by decide +kernel) ?_
  refine x_iret (pc := 8) dX6_sizeIn_8 rfl ⟨by rw [show ((3 : Int) * (k : Int)).toNat = 3 * k by omega]; rfl, rfl, rfl⟩

set_option maxRecDepth 4000 in
theorem t_ways6 {G : GL} {d : Nat} {hp : HP} {sz : Nat} {p N : Nat} (C : ClsA hp p N) (hz : 92 ≤ sz) (hN : 1 ≤ N ∧ N ≤ 8) {S T : Nat → Nat → Int} {W : Nat → Nat} (Ls : LysA hp S T W) {x : Int} (hx : -2147483648 ≤ x ∧ x < 2147483648) : Ct G (d + 2) 0 0 mX6_ways [vr 0, vi x] hp sz (Rd (some (vi (if 0 ≤ x ∧ x < 8 then (W x.toNat : Int) else -1))) hp sz) := by
  show Ex _ _ _ _ _ _ [vr 0, vi x] _ _ _ _
  obtain ⟨C0, C1, C2, C3, C4, C5, C6, C7, C8, C9, g, gA, gB⟩ := id C
  have hob := C0.ob
  refine x_aload_n (pc := 0) dX6_ways_0 rfl ?_
  refine x_iload_n (pc := 1) dX6_ways_1 rfl ?_
  refine x_w1 (pc := 2) dX6_ways_2 wX6_isLaying iX6_isLaying kX6_82 (by decide) rfl (Nat.le_of_ble_eq_true rfl) (by assumption) (by omega) (t_isLaying C hz hN hx) ?_
  refine x_if_eq (pc := 5) (tgt := 20) dX6_ways_5 (by decide) (bz_rg _) (fun c5 => ?_) (fun c5 => ?_)
  · have d1 := bz_e c5
    refine x_iconst (pc := 20) dX6_ways_20 ?_
    refine x_iret (pc := 21) dX6_ways_21 rfl ⟨by first | rw [if_pos (by omega)] | rw [if_neg (by omega)], rfl, rfl⟩
  · have d1 := bz_n c5
    obtain ⟨L, hw⟩ := Ls x.toNat (by omega)
    obtain ⟨L1, L2, L3, L4, L5⟩ := id L
    refine x_aload_n (pc := 8) dX6_ways_8 rfl ?_
    refine x_gf (pc := 9) dX6_ways_9 fX6_31 (by assumption) (by omega) ?_
    refine x_iload_n (pc := 12) dX6_ways_12 rfl ?_
    refine x_al (pc := 13) (j := x.toNat) dX6_ways_13 (by assumption) (by omega) (by omega) (by omega) (gB _ (by omega)) ?_
    refine x_gn (pc := 14) dX6_ways_14 fX6_120 (by assumption) (by omega) ?_
    refine x_goto (pc := 17) (tgt := 21) dX6_ways_17 (by decide) ?_
    refine x_iret (pc := 21) dX6_ways_21 rfl ⟨by first | rw [if_pos (by omega)] | rw [if_neg (by omega)], rfl, rfl⟩

set_option maxRecDepth 4000 in
theorem t_size6 {G : GL} {d : Nat} {hp : HP} {sz : Nat} {p N : Nat} (C : ClsA hp p N) (hz : 92 ≤ sz) (hN : 1 ≤ N ∧ N ≤ 8) {S T : Nat → Nat → Int} {W : Nat → Nat} (Ls : LysA hp S T W) {x : Int} (hx : -2147483648 ≤ x ∧ x < 2147483648) {y : Int} (hy : -2147483648 ≤ y ∧ y < 2147483648) : Ct G (d + 2) 0 0 mX6_size [vr 0, vi x, vi y] hp sz (Rd (some (vi (if 0 ≤ x ∧ x < 8 ∧ 0 ≤ y ∧ y < N then S x.toNat y.toNat else -1))) hp sz) := by
  show Ex _ _ _ _ _ _ [vr 0, vi x, vi y] _ _ _ _
  obtain ⟨C0, C1, C2, C3, C4, C5, C6, C7, C8, C9, g, gA, gB⟩ := id C
  have hob := C0.ob
  refine x_aload_n (pc := 0) dX6_size_0 rfl ?_
  refine x_iload_n (pc := 1) dX6_size_1 rfl ?_
  refine x_w1 (pc := 2) dX6_size_2 wX6_isLaying iX6_isLaying kX6_82 (by decide) rfl (Nat.le_of_ble_eq_true rfl) (by assumption) (by omega) (t_isLaying C hz hN hx) ?_
  refine x_if_eq (pc := 5) (tgt := 30) dX6_size_5 (by decide) (bz_rg _) (fun c5 => ?_) (fun c5 => ?_)
  · have d1 := bz_e c5
    refine x_iconst (pc := 30) dX6_size_30 ?_
    refine x_iret (pc := 31) dX6_size_31 rfl ⟨by first | rw [if_pos (by omega)] | rw [if_neg (by omega)], rfl, rfl⟩
  · have d1 := bz_n c5
    obtain ⟨L, hw⟩ := Ls x.toNat (by omega)
    obtain ⟨L1, L2, L3, L4, L5⟩ := id L
    refine x_aload_n (pc := 8) dX6_size_8 rfl ?_
    refine x_iload_n (pc := 9) dX6_size_9 rfl ?_
    refine x_w1 (pc := 10) dX6_size_10 wX6_isPost iX6_isPost kX6_117 (by decide) rfl (Nat.le_of_ble_eq_true rfl) (by assumption) (by omega) (t_isPost C hz hN hy) ?_
    refine x_if_eq (pc := 13) (tgt := 30) dX6_size_13 (by decide) (bz_rg _) (fun c13 => ?_) (fun c13 => ?_)
    · have d2 := bz_e c13
      refine x_iconst (pc := 30) dX6_size_30 ?_
      refine x_iret (pc := 31) dX6_size_31 rfl ⟨by first | rw [if_pos (by omega)] | rw [if_neg (by omega)], rfl, rfl⟩
    · have d2 := bz_n c13
      refine x_aload_n (pc := 16) dX6_size_16 rfl ?_
      refine x_gf (pc := 17) dX6_size_17 fX6_31 (by assumption) (by omega) ?_
      refine x_iload_n (pc := 20) dX6_size_20 rfl ?_
      refine x_al (pc := 21) (j := x.toNat) dX6_size_21 (by assumption) (by omega) (by omega) (by omega) (gB _ (by omega)) ?_
      refine x_gn (pc := 22) dX6_size_22 fX6_95 (by assumption) (by omega) ?_
      refine x_iload_n (pc := 25) dX6_size_25 rfl ?_
      refine x_il (pc := 26) (j := y.toNat) dX6_size_26 (by assumption) (by omega) (by omega) (by omega) ?_
      refine x_goto (pc := 27) (tgt := 31) dX6_size_27 (by decide) ?_
      refine x_iret (pc := 31) dX6_size_31 rfl ⟨by first | rw [if_pos (by omega)] | rw [if_neg (by omega)], rfl, rfl⟩

set_option maxRecDepth 4000 in
theorem t_count6 {G : GL} {d : Nat} {hp : HP} {sz : Nat} {p N : Nat} (C : ClsA hp p N) (hz : 92 ≤ sz) (hN : 1 ≤ N ∧ N ≤ 8) {x : Int} (hx : -2147483648 ≤ x ∧ x < 2147483648) : Ct G d 0 0 mX6_count [vr 0, vi x] hp sz (Rd (some (vi (if x = 0 then (p : Int) else if x = 1 then (N : Int) else -1))) hp sz) := by
  show Ex _ _ _ _ _ _ [vr 0, vi x] _ _ _ _
  obtain ⟨C0, C1, C2, C3, C4, C5, C6, C7, C8, C9, g, gA, gB⟩ := id C
  have hob := C0.ob
  refine x_iload_n (pc := 0) dX6_count_0 rfl ?_
  by_cases x0 : x = 0
  · subst x0
    refine x_lookup (pc := 1) (tgt := 28) (off := 27) dX6_count_1 (by decide) hx (by decide) (by decide) ?_
    refine x_aload_n (pc := 28) dX6_count_28 rfl ?_
    refine x_gf (pc := 29) dX6_count_29 fX6_13 (by assumption) (by omega) ?_
    exact x_iret (pc := 32) dX6_count_32 rfl ⟨rfl, rfl, rfl⟩
  by_cases x1 : x = 1
  · subst x1
    refine x_lookup (pc := 1) (tgt := 33) (off := 32) dX6_count_1 (by decide) hx (by decide) (by decide) ?_
    refine x_aload_n (pc := 33) dX6_count_33 rfl ?_
    refine x_gf (pc := 34) dX6_count_34 fX6_26 (by assumption) (by omega) ?_
    exact x_iret (pc := 37) dX6_count_37 rfl ⟨rfl, rfl, rfl⟩
  refine x_lookup (pc := 1) (tgt := 38) (off := 37) dX6_count_1 (by decide) hx (by simp [Op.lookupswitch.offset, x0, x1, Ne.symm x0, Ne.symm x1]) (by decide) ?_
  refine x_iconst (pc := 38) dX6_count_38 ?_
  refine x_iret (pc := 39) dX6_count_39 rfl ⟨by rw [if_neg x0, if_neg x1], rfl, rfl⟩

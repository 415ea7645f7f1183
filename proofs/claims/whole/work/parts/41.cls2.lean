theorem msbI (x : Int) (hx : -2147483648 ≤ x ∧ x < 2147483648) : (Int32.ofInt x).toBitVec.msb = decide (x < 0) := by
  have h := BitVec.msb_eq_toInt (x := (Int32.ofInt x).toBitVec)
  rw [h]
  have e : (Int32.ofInt x).toBitVec.toInt = x := oi hx
  rw [e]
theorem xr_sign {x y : Int} (hx : -2147483648 ≤ x ∧ x < 2147483648) (hy : 0 < y ∧ y < 2147483648) : xr x y < 0 ↔ x < 0 := by
  have h := BitVec.msb_eq_toInt (x := (Int32.ofInt x ^^^ Int32.ofInt y).toBitVec)
  have e : (Int32.ofInt x ^^^ Int32.ofInt y).toBitVec.toInt = xr x y := rfl
  rw [e, Int32.toBitVec_xor, BitVec.msb_xor, msbI x hx, msbI y (by omega)] at h
  have hy0 : decide (y < 0) = false := by simp; omega
  rw [hy0, Bool.xor_false] at h
  constructor
  · intro q
    have : decide (xr x y < 0) = true := by simp [q]
    rw [← h] at this
    simpa using this
  · intro q
    have : decide (x < 0) = true := by simp [q]
    rw [h] at this
    simpa using this

set_option maxRecDepth 4000 in
theorem t_floorMod {G : GL} {d : Nat} {hp9 : HP} {sz : Nat} {x : Int} {p : Nat} (hx : -2147483648 ≤ x ∧ x < 2147483648) (hp : 0 < p ∧ p < 1000) : Ct G d 0 0 mJ9_floorMod_7cf53 [vi x, vi p] hp9 sz (Rd (some (vi (x % p))) hp9 sz) := by
  show Ex _ _ _ _ _ _ [vi x, vi p, vu] _ _ _ _
  have hs := xr_sign (x := x) (y := (p : Int)) hx (by omega)
  have hxr := xr_rg x p
  have hb := tmod_bounds (a := x) (M := (p : Int)) (by omega)
  have key : x % p = if x.tmod p < 0 then x.tmod p + p else x.tmod p := by
    rcases Int.le_total 0 x with h0 | h0
    · rw [Int.tmod_eq_emod_of_nonneg h0, if_neg]
      have := Int.emod_nonneg x (show (p : Int) ≠ 0 by omega)
      omega
    · have e := Int.mul_tdiv_add_tmod x p
      have hnn : x.tmod p ≤ 0 := by
        have := Int.tmod_nonneg (a := -x) (p : Int) (by omega)
        rw [Int.neg_tmod] at this
        omega
      by_cases hz9 : x.tmod p = 0
      · rw [hz9, if_neg (by omega)]
        exact Int.emod_eq_zero_of_dvd (Int.dvd_of_tmod_eq_zero hz9)
      · rw [if_pos (by omega)]
        have e2 : x = (x.tmod p + p) + p * (x.tdiv p - 1) := by rw [Int.mul_sub, Int.mul_one]; omega
        have e3 : x % p = ((x.tmod p + p) + p * (x.tdiv p - 1)) % p := by rw [← e2]
        rw [e3, Int.add_mul_emod_self_left, Int.emod_eq_of_lt (by omega) (by omega)]
  refine x_iload_n (pc := 0) dJ9_floorMod_7cf53_0 rfl ?_
  refine x_iload_n (pc := 1) dJ9_floorMod_7cf53_1 rfl ?_
  refine x_irem (pc := 2) dJ9_floorMod_7cf53_2 (by omega) (by omega) ?_
  refine x_istore_n (pc := 3) dJ9_floorMod_7cf53_3 (by decide) rfl ?_
  show Ex _ _ _ _ _ _ [_, _, _] _ _ _ _
  refine x_iload_n (pc := 4) dJ9_floorMod_7cf53_4 rfl ?_
  refine x_iload_n (pc := 5) dJ9_floorMod_7cf53_5 rfl ?_
  refine x_ixor (pc := 6) dJ9_floorMod_7cf53_6 ?_
  refine x_if_ge (pc := 7) (tgt := 18) dJ9_floorMod_7cf53_7 (by decide) hxr (fun c7 => ?_) (fun c7 => ?_)
  · refine x_iload_n (pc := 18) dJ9_floorMod_7cf53_18 rfl ?_
    refine x_iret (pc := 19) dJ9_floorMod_7cf53_19 rfl (by first | exact ⟨by rw [key, if_neg (by omega)], rfl, rfl⟩ | exact ⟨by rw [key, if_neg (by have h5 : ¬ x < 0 := (fun q => absurd (hs.mpr q) (by omega)); have h6 := Int.tmod_nonneg (a := x) (p : Int) (by omega); omega)], rfl, rfl⟩)
  · refine x_iload_n (pc := 10) dJ9_floorMod_7cf53_10 rfl ?_
    refine x_if_eq (pc := 11) (tgt := 18) dJ9_floorMod_7cf53_11 (by decide) (by omega) (fun c11 => ?_) (fun c11 => ?_)
    · refine x_iload_n (pc := 18) dJ9_floorMod_7cf53_18 rfl ?_
      refine x_iret (pc := 19) dJ9_floorMod_7cf53_19 rfl (by first | exact ⟨by rw [key, if_neg (by omega)], rfl, rfl⟩ | exact ⟨by rw [key, if_neg (by have h5 : ¬ x < 0 := (fun q => absurd (hs.mpr q) (by omega)); have h6 := Int.tmod_nonneg (a := x) (p : Int) (by omega); omega)], rfl, rfl⟩)
    · refine x_iload_n (pc := 14) dJ9_floorMod_7cf53_14 rfl ?_
      refine x_iload_n (pc := 15) dJ9_floorMod_7cf53_15 rfl ?_
      refine x_iadd (pc := 16) dJ9_floorMod_7cf53_16 ?_
      refine x_iret (pc := 17) dJ9_floorMod_7cf53_17 rfl ⟨by rw [key, if_pos (by have h5 : x < 0 := hs.mp (by omega); have h6 := Int.tmod_nonneg (a := -x) (p : Int) (by omega); rw [Int.neg_tmod] at h6; omega)], rfl, rfl⟩

theorem l_areSizes {G : GL} {d : Nat} {hp : HP} {sz : Nat} {p N : Nat} (C : ClsA hp p N) (hz : 92 ≤ sz) (hN : 1 ≤ N ∧ N ≤ 8) {x : Int} (hx : 0 ≤ x ∧ x < 2147483648) {Q : Option AV → HP → Nat → Prop} : ∀ k, k ≤ N → (∀ r : Bool, (r = true ↔ ∀ j, k ≤ j → j < N → (x / 2 ^ (3 * j)) % 8 ≤ 4) → Q (some (vi (bz r))) hp sz) → Ex G (d + 1) 0 0 mX6_areSizes 19 [vr 0, vi x, vi k] [] hp sz Q := by
  obtain ⟨C0, C1, C2, C3, C4, C5, C6, C7, C8, C9, g, gA, gB⟩ := id C
  have hob := C0.ob
  refine down (fun hq => ?_) (fun k hk ih hq => ?_)
  · refine x_iload_n (pc := 19) dX6_areSizes_19 rfl ?_
    refine x_aload_n (pc := 20) dX6_areSizes_20 rfl ?_
    refine x_gf (pc := 21) dX6_areSizes_21 fX6_26 (by assumption) (by omega) ?_
    refine x_icmp_ge (pc := 24) (tgt := 44) dX6_areSizes_24 (by decide) (by omega) (by omega) (fun c24 => ?_) (fun c24 => ?_)
    · refine x_iconst (pc := 44) dX6_areSizes_44 ?_
      refine x_zret (pc := 45) dX6_areSizes_45 rfl (Or.inr rfl) (hq true ⟨fun _ j h1 h2 => absurd h2 (by omega), fun _ => rfl⟩)
    · exact absurd c24 (by omega)
  · refine x_iload_n (pc := 19) dX6_areSizes_19 rfl ?_
    refine x_aload_n (pc := 20) dX6_areSizes_20 rfl ?_
    refine x_gf (pc := 21) dX6_areSizes_21 fX6_26 (by assumption) (by omega) ?_
    refine x_icmp_ge (pc := 24) (tgt := 44) dX6_areSizes_24 (by decide) (by omega) (by omega) (fun c24 => ?_) (fun c24 => ?_)
    · exact absurd c24 (by omega)
    · refine x_iload_n (pc := 27) dX6_areSizes_27 rfl ?_
      refine x_iload_n (pc := 28) dX6_areSizes_28 rfl ?_
      refine x_t2 (pc := 29) dX6_areSizes_29 wX6_sizeIn sX6_sizeIn kX6_99 (by decide) rfl (Nat.le_of_ble_eq_true rfl) (t_sizeIn hx (by omega)) ?_
      have hm8 := Int.emod_nonneg (x / 2 ^ (3 * k)) (show (8 : Int) ≠ 0 by decide)
      have hm9 := Int.emod_lt_of_pos (x / 2 ^ (3 * k)) (show (0 : Int) < 8 by decide)
      refine x_iconst (pc := 32) dX6_areSizes_32 ?_
      refine x_icmp_le (pc := 33) (tgt := 38) dX6_areSizes_33 (by decide) (by omega) (by omega) (fun c33 => ?_) (fun c33 => ?_)
      · refine x_iinc (pc := 38) dX6_areSizes_38 rfl (by decide) rfl ?_
        show Ex _ _ _ _ _ _ [_, _, _] _ _ _ _
        refine x_goto (pc := 41) (tgt := 19) dX6_areSizes_41 (by decide) ?_
        exact ih (fun r hr => hq r (by
          rw [hr]
          constructor
          · intro h j h1 h2
            by_cases e : j = k
            · subst e; omega
            · exact h j (by omega) h2
          · intro h j h1 h2
            exact h j (by omega) h2))
      · refine x_iconst (pc := 36) dX6_areSizes_36 ?_
        refine x_zret (pc := 37) dX6_areSizes_37 rfl (Or.inl rfl) (hq false ⟨fun h => absurd h (by decide), fun h => absurd (h k (by omega) hk) (by omega)⟩)

set_option maxRecDepth 4000 in
theorem t_areSizes {G : GL} {d : Nat} {hp : HP} {sz : Nat} {p N : Nat} (C : ClsA hp p N) (hz : 92 ≤ sz) (hN : 1 ≤ N ∧ N ≤ 8) {x : Int} (hx : -2147483648 ≤ x ∧ x < 2147483648) : Ct G (d + 1) 0 0 mX6_areSizes [vr 0, vi x] hp sz (Vs (fun v h => h = hp ∧ ∃ r : Bool, v = vi (bz r) ∧ (r = true ↔ 0 ≤ x ∧ x < 2 ^ (3 * N) ∧ ∀ j, j < N → (x / 2 ^ (3 * j)) % 8 ≤ 4)) sz) := by
  show Ex _ _ _ _ _ _ [vr 0, vi x, vu] _ _ _ _
  obtain ⟨C0, C1, C2, C3, C4, C5, C6, C7, C8, C9, g, gA, gB⟩ := id C
  have hob := C0.ob
  refine x_iload_n (pc := 0) dX6_areSizes_0 rfl ?_
  refine x_if_lt (pc := 1) (tgt := 15) dX6_areSizes_1 (by decide) (by omega) (fun c1 => ?_) (fun c1 => ?_)
  · refine x_iconst (pc := 15) dX6_areSizes_15 ?_
    refine x_zret (pc := 16) dX6_areSizes_16 rfl (Or.inl rfl) ⟨_, rfl, rfl, rfl, false, rfl, ⟨fun h => absurd h (by decide), fun h => absurd h (by omega)⟩⟩
  · refine x_iload_n (pc := 4) dX6_areSizes_4 rfl ?_
    refine x_iconst (pc := 5) dX6_areSizes_5 ?_
    refine x_aload_n (pc := 6) dX6_areSizes_6 rfl ?_
    refine x_gf (pc := 7) dX6_areSizes_7 fX6_26 (by assumption) (by omega) ?_
    refine x_imul (pc := 10) dX6_areSizes_10 ?_
    refine x_ishr (pc := 11) dX6_areSizes_11 (by omega) (by omega) ?_
    rw [show ((3 : Int) * (N : Int)).toNat = 3 * N by omega]
    have hpw : (0 : Int) < 2 ^ (3 * N) := Int.pow_pos (by decide)
    have hle := Int.ediv_le_self (2 ^ (3 * N)) (show 0 ≤ x by omega)
    have hge := Int.ediv_nonneg (show 0 ≤ x by omega) (Int.le_of_lt hpw)
    refine x_if_eq (pc := 12) (tgt := 17) dX6_areSizes_12 (by decide) (by omega) (fun c12 => ?_) (fun c12 => ?_)
    · have d1 : x < 2 ^ (3 * N) := by
        have := Int.lt_ediv_add_one_mul_self x hpw
        rw [c12] at this
        omega
      refine x_iconst (pc := 17) dX6_areSizes_17 ?_
      refine x_istore_n (pc := 18) dX6_areSizes_18 (by decide) rfl ?_
      show Ex _ _ _ _ _ _ [_, _, _] _ _ _ _
      exact l_areSizes C hz hN (by omega) 0 (by omega) (fun r hr => ⟨_, rfl, rfl, rfl, r, rfl, by rw [hr]; exact ⟨fun h => ⟨by omega, d1, fun j hj => h j (by omega) hj⟩, fun h j _ hj => h.2.2 j hj⟩⟩)
    · have d1 : ¬ x < 2 ^ (3 * N) := fun h => c12 (Int.ediv_eq_zero_of_lt (by omega) h)
      refine x_iconst (pc := 15) dX6_areSizes_15 ?_
      refine x_zret (pc := 16) dX6_areSizes_16 rfl (Or.inl rfl) ⟨_, rfl, rfl, rfl, false, rfl, ⟨fun h => absurd h (by decide), fun h => absurd h (by omega)⟩⟩

set_option maxRecDepth 4000 in
theorem t_haveSame {G : GL} {d : Nat} {hp : HP} {sz : Nat} {p N : Nat} (C : ClsA hp p N) (hz : 92 ≤ sz) (hN : 1 ≤ N ∧ N ≤ 8) {S T : Nat → Nat → Int} {W : Nat → Nat} (Ls : LysA hp S T W) {x : Int} (hx : -2147483648 ≤ x ∧ x < 2147483648) {y : Int} (hy : -2147483648 ≤ y ∧ y < 2147483648) : Ct G (d + 2) 0 0 mX6_haveSameWays [vr 0, vi x, vi y] hp sz (Rd (some (vi (bz (decide (0 ≤ x ∧ x < 8 ∧ 0 ≤ y ∧ y < 8 ∧ W x.toNat = W y.toNat))))) hp sz) := by
  show Ex _ _ _ _ _ _ [vr 0, vi x, vi y] _ _ _ _
  obtain ⟨C0, C1, C2, C3, C4, C5, C6, C7, C8, C9, g, gA, gB⟩ := id C
  have hob := C0.ob
  refine x_aload_n (pc := 0) dX6_haveSameWays_0 rfl ?_
  refine x_iload_n (pc := 1) dX6_haveSameWays_1 rfl ?_
  refine x_w1 (pc := 2) dX6_haveSameWays_2 wX6_isLaying iX6_isLaying kX6_82 (by decide) rfl (Nat.le_of_ble_eq_true rfl) (by assumption) (by omega) (t_isLaying C hz hN hx) ?_
  refine x_if_eq (pc := 5) (tgt := 41) dX6_haveSameWays_5 (by decide) (bz_rg _) (fun c5 => ?_) (fun c5 => ?_)
  · have d1 := bz_e c5
    refine x_iconst (pc := 41) dX6_haveSameWays_41 ?_
    refine x_zret (pc := 42) dX6_haveSameWays_42 rfl (by omega) ⟨by first | rw [← bz1 (by omega)] | rw [← bz0 (by omega)], rfl, rfl⟩
  · have d1 := bz_n c5
    obtain ⟨L, hw⟩ := Ls x.toNat (by omega)
    obtain ⟨L1, L2, L3, L4, L5⟩ := id L
    have hoL := L.ob
    refine x_aload_n (pc := 8) dX6_haveSameWays_8 rfl ?_
    refine x_iload_n (pc := 9) dX6_haveSameWays_9 rfl ?_
    refine x_w1 (pc := 10) dX6_haveSameWays_10 wX6_isLaying iX6_isLaying kX6_82 (by decide) rfl (Nat.le_of_ble_eq_true rfl) (by assumption) (by omega) (t_isLaying C hz hN hy) ?_
    refine x_if_eq (pc := 13) (tgt := 41) dX6_haveSameWays_13 (by decide) (bz_rg _) (fun c13 => ?_) (fun c13 => ?_)
    · have d2 := bz_e c13
      refine x_iconst (pc := 41) dX6_haveSameWays_41 ?_
      refine x_zret (pc := 42) dX6_haveSameWays_42 rfl (by omega) ⟨by first | rw [← bz1 (by omega)] | rw [← bz0 (by omega)], rfl, rfl⟩
    · have d2 := bz_n c13
      obtain ⟨K, hk9⟩ := Ls y.toNat (by omega)
      obtain ⟨K1, K2, K3, K4, K5⟩ := id K
      refine x_aload_n (pc := 16) dX6_haveSameWays_16 rfl ?_
      refine x_gf (pc := 17) dX6_haveSameWays_17 fX6_31 (by assumption) (by omega) ?_
      refine x_iload_n (pc := 20) dX6_haveSameWays_20 rfl ?_
      refine x_al (pc := 21) (j := x.toNat) dX6_haveSameWays_21 (by assumption) (by omega) (by omega) (by omega) (gB _ (by omega)) ?_
      refine x_gn (pc := 22) dX6_haveSameWays_22 fX6_120 (by assumption) (by omega) ?_
      refine x_aload_n (pc := 25) dX6_haveSameWays_25 rfl ?_
      refine x_gf (pc := 26) dX6_haveSameWays_26 fX6_31 (by assumption) (by omega) ?_
      refine x_iload_n (pc := 29) dX6_haveSameWays_29 rfl ?_
      refine x_al (pc := 30) (j := y.toNat) dX6_haveSameWays_30 (by assumption) (by omega) (by omega) (by omega) (gB _ (by omega)) ?_
      refine x_gn (pc := 31) dX6_haveSameWays_31 fX6_120 (by assumption) (by omega) ?_
      refine x_icmp_ne (pc := 34) (tgt := 41) dX6_haveSameWays_34 (by decide) (by omega) (by omega) (fun c34 => ?_) (fun c34 => ?_)
      · refine x_iconst (pc := 41) dX6_haveSameWays_41 ?_
        refine x_zret (pc := 42) dX6_haveSameWays_42 rfl (by omega) ⟨by first | rw [← bz1 (by omega)] | rw [← bz0 (by omega)], rfl, rfl⟩
      · refine x_iconst (pc := 37) dX6_haveSameWays_37 ?_
        refine x_goto (pc := 38) (tgt := 42) dX6_haveSameWays_38 (by decide) ?_
        refine x_zret (pc := 42) dX6_haveSameWays_42 rfl (by omega) ⟨by first | rw [← bz1 (by omega)] | rw [← bz0 (by omega)], rfl, rfl⟩

set_option maxRecDepth 4000 in
theorem t_isCell {G : GL} {d : Nat} {hp : HP} {sz : Nat} {p N : Nat} (C : ClsA hp p N) (hz : 92 ≤ sz) (hN : 1 ≤ N ∧ N ≤ 8) {S T : Nat → Nat → Int} {W : Nat → Nat} (Ls : LysA hp S T W) (hS : ∀ l j, l < 8 → j < 8 → 0 ≤ S l j ∧ S l j ≤ 4) {x : Int} (hx : -2147483648 ≤ x ∧ x < 2147483648) {y : Int} (hy : -2147483648 ≤ y ∧ y < 2147483648) {u : Int} (hu : -2147483648 ≤ u ∧ u < 2147483648) {v : Int} (hv : -2147483648 ≤ v ∧ v < 2147483648) : Ct G (d + 3) 0 0 mX6_isCell [vr 0, vi x, vi y, vi u, vi v] hp sz (Vs (fun r h => h = hp ∧ ∃ b : Bool, r = vi (bz b) ∧ (b = true ↔ ∃ l k i j : Nat, x = (l : Int) ∧ y = (k : Int) ∧ u = (i : Int) ∧ v = (j : Int) ∧ l < 8 ∧ k < N - 1 ∧ (i : Int) < S l (if (W l).testBit k then k else k + 1) ∧ (j : Int) < S l (if (W l).testBit k then k + 1 else k))) sz) := by
  show Ex _ _ _ _ _ _ [vr 0, vi x, vi y, vi u, vi v] _ _ _ _
  obtain ⟨C0, C1, C2, C3, C4, C5, C6, C7, C8, C9, g, gA, gB⟩ := id C
  have hob := C0.ob
  refine x_aload_n (pc := 0) dX6_isCell_0 rfl ?_
  refine x_iload_n (pc := 1) dX6_isCell_1 rfl ?_
  refine x_w1 (pc := 2) dX6_isCell_2 wX6_isLaying iX6_isLaying kX6_82 (by decide) rfl (Nat.le_of_ble_eq_true rfl) (by assumption) (by omega) (t_isLaying C hz hN hx) ?_
  refine x_if_eq (pc := 5) (tgt := 55) dX6_isCell_5 (by decide) (bz_rg _) (fun c5 => ?_) (fun c5 => ?_)
  · have d1 := bz_e c5
    refine x_iconst (pc := 55) dX6_isCell_55 ?_
    refine x_zret (pc := 56) dX6_isCell_56 rfl (by omega) (by first | exact ⟨_, rfl, rfl, rfl, true, rfl, ⟨fun _ => ⟨l, k, u.toNat, v.toNat, rfl, rfl, by omega, by omega, by omega, by omega, by omega, by omega⟩, fun _ => rfl⟩⟩ | exact ⟨_, rfl, rfl, rfl, false, rfl, ⟨fun h => absurd h (by decide), fun h => (by obtain ⟨l1, k1, i1, j1, e1, e2, e3, e4, e5, e6, e7, e8⟩ := h; first | omega | (have q1 : l1 = l := (by omega); have q2 : k1 = k := (by omega); subst q1; subst q2; omega))⟩⟩)
  · have d1 := bz_n c5
    obtain ⟨l, rfl⟩ : ∃ l : Nat, x = (l : Int) := ⟨x.toNat, by omega⟩
    obtain ⟨L, hw⟩ := Ls l (by omega)
    have hoL := L.ob
    refine x_aload_n (pc := 8) dX6_isCell_8 rfl ?_
    refine x_iload_n (pc := 9) dX6_isCell_9 rfl ?_
    refine x_w1 (pc := 10) dX6_isCell_10 wX6_isArrow iX6_isArrow kX6_151 (by decide) rfl (Nat.le_of_ble_eq_true rfl) (by assumption) (by omega) (t_isArrow C hz hN hy) ?_
    refine x_if_eq (pc := 13) (tgt := 55) dX6_isCell_13 (by decide) (bz_rg _) (fun c13 => ?_) (fun c13 => ?_)
    · have d2 := bz_e c13
      refine x_iconst (pc := 55) dX6_isCell_55 ?_
      refine x_zret (pc := 56) dX6_isCell_56 rfl (by omega) (by first | exact ⟨_, rfl, rfl, rfl, true, rfl, ⟨fun _ => ⟨l, k, u.toNat, v.toNat, rfl, rfl, by omega, by omega, by omega, by omega, by omega, by omega⟩, fun _ => rfl⟩⟩ | exact ⟨_, rfl, rfl, rfl, false, rfl, ⟨fun h => absurd h (by decide), fun h => (by obtain ⟨l1, k1, i1, j1, e1, e2, e3, e4, e5, e6, e7, e8⟩ := h; first | omega | (have q1 : l1 = l := (by omega); have q2 : k1 = k := (by omega); subst q1; subst q2; omega))⟩⟩)
    · have d2 := bz_n c13
      obtain ⟨k, rfl⟩ : ∃ k : Nat, y = (k : Int) := ⟨y.toNat, by omega⟩
      refine x_iload_n (pc := 16) dX6_isCell_16 rfl ?_
      refine x_aload_n (pc := 17) dX6_isCell_17 rfl ?_
      refine x_gf (pc := 18) dX6_isCell_18 fX6_31 (by assumption) (by omega) ?_
      refine x_iload_n (pc := 21) dX6_isCell_21 rfl ?_
      refine x_al (pc := 22) dX6_isCell_22 (by assumption) (by omega) rfl (by omega) (gB _ (by omega)) ?_
      refine x_iload_n (pc := 23) dX6_isCell_23 rfl ?_
      refine x_w1 (pc := 24) dX6_isCell_24 wX0_rowsOf iX0_rowsOf kX6_138 (by decide) rfl (Nat.le_of_ble_eq_true rfl) (by assumption) (by omega) (t_rowsOf L (by omega) (k := k) (by omega) hw) ?_
      refine x_t2 (pc := 27) dX6_isCell_27 wX6_isBelow sX6_isBelow kX6_148 (by decide) rfl (Nat.le_of_ble_eq_true rfl) (t_isBelow hu (by have := hS l (if (W l).testBit k then k else k + 1) (by omega) (by split <;> omega); omega)) ?_
      refine x_if_eq (pc := 30) (tgt := 55) dX6_isCell_30 (by decide) (bz_rg _) (fun c30 => ?_) (fun c30 => ?_)
      · have d3 := bz_e c30
        refine x_iconst (pc := 55) dX6_isCell_55 ?_
        refine x_zret (pc := 56) dX6_isCell_56 rfl (by omega) (by first | exact ⟨_, rfl, rfl, rfl, true, rfl, ⟨fun _ => ⟨l, k, u.toNat, v.toNat, rfl, rfl, by omega, by omega, by omega, by omega, by omega, by omega⟩, fun _ => rfl⟩⟩ | exact ⟨_, rfl, rfl, rfl, false, rfl, ⟨fun h => absurd h (by decide), fun h => (by obtain ⟨l1, k1, i1, j1, e1, e2, e3, e4, e5, e6, e7, e8⟩ := h; first | omega | (have q1 : l1 = l := (by omega); have q2 : k1 = k := (by omega); subst q1; subst q2; omega))⟩⟩)
      · have d3 := bz_n c30
        refine x_iload (pc := 33) dX6_isCell_33 rfl ?_
        refine x_aload_n (pc := 35) dX6_isCell_35 rfl ?_
        refine x_gf (pc := 36) dX6_isCell_36 fX6_31 (by assumption) (by omega) ?_
        refine x_iload_n (pc := 39) dX6_isCell_39 rfl ?_
        refine x_al (pc := 40) dX6_isCell_40 (by assumption) (by omega) rfl (by omega) (gB _ (by omega)) ?_
        refine x_iload_n (pc := 41) dX6_isCell_41 rfl ?_
        refine x_w1 (pc := 42) dX6_isCell_42 wX0_columnsOf iX0_columnsOf kX6_141 (by decide) rfl (Nat.le_of_ble_eq_true rfl) (by assumption) (by omega) (t_columnsOf L (by omega) (k := k) (by omega) hw) ?_
        refine x_t2 (pc := 45) dX6_isCell_45 wX6_isBelow sX6_isBelow kX6_148 (by decide) rfl (Nat.le_of_ble_eq_true rfl) (t_isBelow hv (by have := hS l (if (W l).testBit k then k + 1 else k) (by omega) (by split <;> omega); omega)) ?_
        refine x_if_eq (pc := 48) (tgt := 55) dX6_isCell_48 (by decide) (bz_rg _) (fun c48 => ?_) (fun c48 => ?_)
        · have d4 := bz_e c48
          refine x_iconst (pc := 55) dX6_isCell_55 ?_
          refine x_zret (pc := 56) dX6_isCell_56 rfl (by omega) (by first | exact ⟨_, rfl, rfl, rfl, true, rfl, ⟨fun _ => ⟨l, k, u.toNat, v.toNat, rfl, rfl, by omega, by omega, by omega, by omega, by omega, by omega⟩, fun _ => rfl⟩⟩ | exact ⟨_, rfl, rfl, rfl, false, rfl, ⟨fun h => absurd h (by decide), fun h => (by obtain ⟨l1, k1, i1, j1, e1, e2, e3, e4, e5, e6, e7, e8⟩ := h; first | omega | (have q1 : l1 = l := (by omega); have q2 : k1 = k := (by omega); subst q1; subst q2; omega))⟩⟩)
        · have d4 := bz_n c48
          refine x_iconst (pc := 51) dX6_isCell_51 ?_
          refine x_goto (pc := 52) (tgt := 56) dX6_isCell_52 (by decide) ?_
          refine x_zret (pc := 56) dX6_isCell_56 rfl (by omega) (by first | exact ⟨_, rfl, rfl, rfl, true, rfl, ⟨fun _ => ⟨l, k, u.toNat, v.toNat, rfl, rfl, by omega, by omega, by omega, by omega, by omega, by omega⟩, fun _ => rfl⟩⟩ | exact ⟨_, rfl, rfl, rfl, false, rfl, ⟨fun h => absurd h (by decide), fun h => (by obtain ⟨l1, k1, i1, j1, e1, e2, e3, e4, e5, e6, e7, e8⟩ := h; first | omega | (have q1 : l1 = l := (by omega); have q2 : k1 = k := (by omega); subst q1; subst q2; omega))⟩⟩)

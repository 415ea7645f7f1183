/-! what set, lay, span and mix leave as it was -/
set_option maxRecDepth 4000 in
theorem t_set9 {G : GL} {d : Nat} {hp : HP} {sz : Nat} {p N : Nat} (C : ClsA hp p N) (hz : 92 ≤ sz) (hN : 1 ≤ N ∧ N ≤ 8) (hP : isP p) {S T : Nat → Nat → Int} {W : Nat → Nat} (Ls : LysA hp S T W) (hS : inS S) {x : Int} (hx : -2147483648 ≤ x ∧ x < 2147483648) {y : Int} (hy : -2147483648 ≤ y ∧ y < 2147483648) {u : Int} (hu : -2147483648 ≤ u ∧ u < 2147483648) {v : Int} (hv : -2147483648 ≤ v ∧ v < 2147483648) {z : Int} (hz1 : -2147483648 ≤ z ∧ z < 2147483648) : Ct G (d + 4) 0 0 mX6_set [vr 0, vi x, vi y, vi u, vi v, vi z] hp sz (Vs (fun r h => ClsA h p N ∧ Fr hp h 2 25 ∧ ((∃ l k i j : Nat, cellP N S W x y u v l k i j ∧ r = vi 1 ∧ LysA h S (up T l (up (T l) (k * 16 + i * 4 + j) (z % p))) W) ∨ ((¬ ∃ l k i j : Nat, cellP N S W x y u v l k i j) ∧ r = vi 0 ∧ h = hp))) sz) := by
  show Ex _ _ _ _ _ _ [vr 0, vi x, vi y, vi u, vi v, vi z] _ _ _ _
  obtain ⟨C0, C1, C2, C3, C4, C5, C6, C7, C8, C9, g, gA, gB⟩ := id C
  have hob := C0.ob
  refine x_aload_n (pc := 0) dX6_set_0 rfl ?_
  refine x_iload_n (pc := 1) dX6_set_1 rfl ?_
  refine x_iload_n (pc := 2) dX6_set_2 rfl ?_
  refine x_iload_n (pc := 3) dX6_set_3 rfl ?_
  refine x_iload (pc := 4) dX6_set_4 rfl ?_
  refine x_y4 (pc := 6) dX6_set_6 wX6_isCell iX6_isCell kX6_102 (by decide) rfl (Nat.le_of_ble_eq_true rfl) (by assumption) (by omega) (t_isCell C hz hN Ls hS hx hy hu hv) (fun v6 h6 e6 => ?_)
  obtain ⟨rfl, b, rfl, hb⟩ := e6
  refine x_if_ne (pc := 9) (tgt := 14) dX6_set_9 (by decide) (bz_rg _) (fun c9 => ?_) (fun c9 => ?_)
  · have b1 : b = true := by cases b <;> simp_all [bz]
    subst b1
    obtain ⟨l, k, i, j, rfl, rfl, rfl, rfl, hl, hk, hi, hj⟩ := hb.mp rfl
    have hs1 := hS l (if (W l).testBit k then k else k + 1) hl (by split <;> omega)
    have hs2 := hS l (if (W l).testBit k then k + 1 else k) hl (by split <;> omega)
    obtain ⟨L, hw⟩ := Ls l hl
    have hoL := L.ob
    refine x_aload_n (pc := 14) dX6_set_14 rfl ?_
    refine x_gf (pc := 15) dX6_set_15 fX6_31 (by assumption) (by omega) ?_
    refine x_iload_n (pc := 18) dX6_set_18 rfl ?_
    refine x_al (pc := 19) dX6_set_19 (by assumption) (by omega) rfl (by omega) (gB _ (by omega)) ?_
    refine x_iload_n (pc := 20) dX6_set_20 rfl ?_
    refine x_iload_n (pc := 21) dX6_set_21 rfl ?_
    refine x_iload (pc := 22) dX6_set_22 rfl ?_
    refine x_iload (pc := 24) dX6_set_24 rfl ?_
    refine x_aload_n (pc := 26) dX6_set_26 rfl ?_
    refine x_gf (pc := 27) dX6_set_27 fX6_13 (by assumption) (by omega) ?_
    refine x_t2 (pc := 30) dX6_set_30 wJ9_floorMod_7cf53 sJ9_floorMod_7cf53 kX6_106 (by decide) rfl (Nat.le_of_ble_eq_true rfl) (t_floorMod hz1 (by have := hP.le; omega)) ?_
    refine x_p4 (pc := 33) dX6_set_33 wX0_put iX0_put kX6_109 (by decide) rfl (Nat.le_of_ble_eq_true rfl) (by assumption) (by omega) (t_put L (by omega) (k := k) (r := i) (c := j) (by omega) (by omega) (by omega)) (fun h33 e33 => ?_)
    subst e33
    refine x_iconst (pc := 36) dX6_set_36 ?_
    refine x_zret (pc := 37) dX6_set_37 rfl (by omega) (by
      have f1 : Fr h6 (up h6 (2 + 3 * l + 2) (ar 0 112 (up (T l) (k * 16 + i * 4 + j) (z % p)))) (2 + 3 * l) (2 + 3 * l + 2) := Fr.rf.up (by omega) (by omega)
      have q1 := LysA.one (s := S l) (n := up (T l) (k * 16 + i * 4 + j) (z % p)) (w := W l) Ls hl f1 L.upn hw
      have e1 : ∀ {α : Type} (F : Nat → α), up F l (F l) = F := fun F => by funext b; by_cases e : b = l; (rw [e, up_s]); (rw [up_n _ _ e])
      rw [e1, e1] at q1
      exact ⟨_, rfl, rfl, C.keep (f1 0 (by omega)) (f1 1 (by omega)), f1.wide (by omega) (by omega), Or.inl ⟨l, k, i, j, ⟨rfl, rfl, rfl, rfl, hl, hk, hi, hj⟩, rfl, q1⟩⟩)
  · have b0 : b = false := by cases b <;> simp_all [bz]
    subst b0
    refine x_iconst (pc := 12) dX6_set_12 ?_
    refine x_zret (pc := 13) dX6_set_13 rfl (by omega) ⟨_, rfl, rfl, C, Fr.rf, Or.inr ⟨fun h => absurd (hb.mpr h) (by decide), rfl, rfl⟩⟩

set_option maxRecDepth 4000 in
theorem t_lay9 {G : GL} {d : Nat} {hp : HP} {sz : Nat} {p N : Nat} (C : ClsA hp p N) (hz : 92 ≤ sz) (hN : 1 ≤ N ∧ N ≤ 8) {S T : Nat → Nat → Int} {W : Nat → Nat} (Ls : LysA hp S T W) {x : Int} (hx : -2147483648 ≤ x ∧ x < 2147483648) {y : Int} (hy : -2147483648 ≤ y ∧ y < 2147483648) {z : Int} (hz1 : -2147483648 ≤ z ∧ z < 2147483648) : Ct G (d + 2) 0 0 mX6_lay [vr 0, vi x, vi y, vi z] hp sz (Vs (fun r h => ((0 ≤ x ∧ x < 8 ∧ 0 ≤ y ∧ y < 2 ^ (N - 1) ∧ 0 ≤ z ∧ z < 2 ^ (3 * N) ∧ ∀ j, j < N → (z / 2 ^ (3 * j)) % 8 ≤ 4) ∧ r = vi 1 ∧ ClsA h p N ∧ Fr hp h 2 25 ∧ ∃ s1 n1, LysA h (up S x.toNat s1) (up T x.toNat n1) (up W x.toNat y.toNat) ∧ (∀ j, j < 8 → s1 j = if j < N then (z / 2 ^ (3 * j)) % 8 else 0) ∧ ∀ j, j < 112 → n1 j = 0) ∨ ((¬ (0 ≤ x ∧ x < 8 ∧ 0 ≤ y ∧ y < 2 ^ (N - 1) ∧ 0 ≤ z ∧ z < 2 ^ (3 * N) ∧ ∀ j, j < N → (z / 2 ^ (3 * j)) % 8 ≤ 4)) ∧ r = vi 0 ∧ h = hp)) sz) := by
  show Ex _ _ _ _ _ _ [vr 0, vi x, vi y, vi z, vu, vu] _ _ _ _
  obtain ⟨C0, C1, C2, C3, C4, C5, C6, C7, C8, C9, g, gA, gB⟩ := id C
  have hob := C0.ob
  have hp7 := pw7 hN
  refine x_aload_n (pc := 0) dX6_lay_0 rfl ?_
  refine x_iload_n (pc := 1) dX6_lay_1 rfl ?_
  refine x_w1 (pc := 2) dX6_lay_2 wX6_isLaying iX6_isLaying kX6_82 (by decide) rfl (Nat.le_of_ble_eq_true rfl) (by assumption) (by omega) (t_isLaying C hz hN hx) ?_
  refine x_if_eq (pc := 5) (tgt := 24) dX6_lay_5 (by decide) (bz_rg _) (fun c5 => ?_) (fun c5 => ?_)
  · have d1 := bz_e c5
    refine x_iconst (pc := 24) dX6_lay_24 ?_
    refine x_zret (pc := 25) dX6_lay_25 rfl (by omega) (by first | exact ⟨_, rfl, rfl, Or.inr ⟨fun h => absurd (hb.mpr ⟨h.2.2.2.2.1, h.2.2.2.2.2.1, h.2.2.2.2.2.2⟩) (by decide), rfl, rfl⟩⟩ | exact ⟨_, rfl, rfl, Or.inr ⟨fun h => absurd h.1 (by omega), rfl, rfl⟩⟩ | exact ⟨_, rfl, rfl, Or.inr ⟨fun h => absurd h.2.1 (by omega), rfl, rfl⟩⟩ | exact ⟨_, rfl, rfl, Or.inr ⟨fun h => d1 ⟨h.1, h.2.1⟩, rfl, rfl⟩⟩ | exact ⟨_, rfl, rfl, Or.inr ⟨fun h => d2 ⟨h.2.2.1, h.2.2.2.1⟩, rfl, rfl⟩⟩)
  · have d1 := bz_n c5
    refine x_aload_n (pc := 8) dX6_lay_8 rfl ?_
    refine x_iload_n (pc := 9) dX6_lay_9 rfl ?_
    refine x_w1 (pc := 10) dX6_lay_10 wX6_areWays iX6_areWays kX6_86 (by decide) rfl (Nat.le_of_ble_eq_true rfl) (by assumption) (by omega) (t_areWays C hz hN hy) ?_
    refine x_if_eq (pc := 13) (tgt := 24) dX6_lay_13 (by decide) (bz_rg _) (fun c13 => ?_) (fun c13 => ?_)
    · have d2 := bz_e c13
      refine x_iconst (pc := 24) dX6_lay_24 ?_
      refine x_zret (pc := 25) dX6_lay_25 rfl (by omega) (by first | exact ⟨_, rfl, rfl, Or.inr ⟨fun h => absurd (hb.mpr ⟨h.2.2.2.2.1, h.2.2.2.2.2.1, h.2.2.2.2.2.2⟩) (by decide), rfl, rfl⟩⟩ | exact ⟨_, rfl, rfl, Or.inr ⟨fun h => absurd h.1 (by omega), rfl, rfl⟩⟩ | exact ⟨_, rfl, rfl, Or.inr ⟨fun h => absurd h.2.1 (by omega), rfl, rfl⟩⟩ | exact ⟨_, rfl, rfl, Or.inr ⟨fun h => d1 ⟨h.1, h.2.1⟩, rfl, rfl⟩⟩ | exact ⟨_, rfl, rfl, Or.inr ⟨fun h => d2 ⟨h.2.2.1, h.2.2.2.1⟩, rfl, rfl⟩⟩)
    · have d2 := bz_n c13
      refine x_aload_n (pc := 16) dX6_lay_16 rfl ?_
      refine x_iload_n (pc := 17) dX6_lay_17 rfl ?_
      refine x_y1 (pc := 18) dX6_lay_18 wX6_areSizes iX6_areSizes kX6_89 (by decide) rfl (Nat.le_of_ble_eq_true rfl) (by assumption) (by omega) (t_areSizes C hz hN hz1) (fun v18 h18 e18 => ?_)
      obtain ⟨rfl, b, rfl, hb⟩ := e18
      refine x_if_ne (pc := 21) (tgt := 26) dX6_lay_21 (by decide) (bz_rg _) (fun c21 => ?_) (fun c21 => ?_)
      · have b1 : b = true := by cases b <;> simp_all [bz]
        subst b1
        have hb1 := hb.mp rfl
        obtain ⟨L, hw⟩ := Ls x.toNat (by omega)
        have hoL := L.ob
        obtain ⟨l, rfl⟩ : ∃ l : Nat, x = (l : Int) := ⟨x.toNat, by omega⟩
        obtain ⟨w, rfl⟩ : ∃ w : Nat, y = (w : Int) := ⟨y.toNat, by omega⟩
        rw [Int.toNat_natCast] at L hoL
        simp only [Int.toNat_natCast]
        refine x_aload_n (pc := 26) dX6_lay_26 rfl ?_
        refine x_gf (pc := 27) dX6_lay_27 fX6_31 (by assumption) (by omega) ?_
        refine x_iload_n (pc := 30) dX6_lay_30 rfl ?_
        refine x_al (pc := 31) dX6_lay_31 (by assumption) (by omega) rfl (by omega) (gB _ (by omega)) ?_
        refine x_astore (pc := 32) dX6_lay_32 (by decide) rfl ?_
        show Ex _ _ _ _ _ _ [_, _, _, _, _, _] _ _ _ _
        refine x_aload (pc := 34) dX6_lay_34 rfl ?_
        refine x_iload_n (pc := 36) dX6_lay_36 rfl ?_
        refine x_p1 (pc := 37) dX6_lay_37 wX0_empty iX0_empty kX6_92 (by decide) rfl (Nat.le_of_ble_eq_true rfl) (by assumption) (by omega) (t_empty (x := w) L (by omega)) (fun h37 e37 => ?_)
        obtain ⟨f9, s2, n2, L2, e2, e3⟩ := e37
        have C9 := C.keep (f9 0 (by omega)) (f9 1 (by omega))
        refine x_iconst (pc := 40) dX6_lay_40 ?_
        refine x_istore (pc := 41) dX6_lay_41 (by decide) rfl ?_
        show Ex _ _ _ _ _ _ [_, _, _, _, _, _] _ _ _ _
        exact l_lay (a := 2 + 3 * l) hz hN (by omega) (by omega) 0 (by omega) h37 s2 C9 L2 (fun h s1 C1 l1 f1 e1 => ⟨_, rfl, rfl, Or.inl ⟨⟨by omega, by omega, by omega, by omega, hb1⟩, rfl, C1, (f9.tr f1).wide (by omega) (by omega), s1, n2, LysA.one Ls (by omega) (f9.tr f1) l1 (by omega), fun j hj => by
          rw [e1 j hj]
          by_cases e : j < N
          · rw [if_pos ⟨by omega, e⟩, if_pos e]
          · rw [if_neg (by omega), if_neg e]
            exact e2 j hj, e3⟩⟩)
      · have b0 : b = false := by cases b <;> simp_all [bz]
        subst b0
        refine x_iconst (pc := 24) dX6_lay_24 ?_
        refine x_zret (pc := 25) dX6_lay_25 rfl (by omega) (by first | exact ⟨_, rfl, rfl, Or.inr ⟨fun h => absurd (hb.mpr ⟨h.2.2.2.2.1, h.2.2.2.2.2.1, h.2.2.2.2.2.2⟩) (by decide), rfl, rfl⟩⟩ | exact ⟨_, rfl, rfl, Or.inr ⟨fun h => absurd h.1 (by omega), rfl, rfl⟩⟩ | exact ⟨_, rfl, rfl, Or.inr ⟨fun h => absurd h.2.1 (by omega), rfl, rfl⟩⟩ | exact ⟨_, rfl, rfl, Or.inr ⟨fun h => d1 ⟨h.1, h.2.1⟩, rfl, rfl⟩⟩ | exact ⟨_, rfl, rfl, Or.inr ⟨fun h => d2 ⟨h.2.2.1, h.2.2.2.1⟩, rfl, rfl⟩⟩)

set_option maxRecDepth 4000 in
theorem t_span9 {G : GL} {d : Nat} {hp : HP} {sz : Nat} {p N : Nat} (C : ClsA hp p N) (hz : 92 ≤ sz) (hN : 1 ≤ N ∧ N ≤ 8) {S T : Nat → Nat → Int} {W : Nat → Nat} (Ls : LysA hp S T W) {x : Int} (hx : -2147483648 ≤ x ∧ x < 2147483648) {y : Int} (hy : -2147483648 ≤ y ∧ y < 2147483648) {u : Int} (hu : -2147483648 ≤ u ∧ u < 2147483648) {v : Int} (hv : -2147483648 ≤ v ∧ v < 2147483648) : Ct G (d + 3) 0 0 mX6_span [vr 0, vi x, vi y, vi u, vi v] hp sz (Vs (fun r h => ((0 ≤ x ∧ x < 8 ∧ 0 ≤ y ∧ y < 2 ^ (N - 1) ∧ 0 ≤ u ∧ u ≤ v ∧ v < N) ∧ r = vi 1 ∧ ClsA h p N ∧ Fr hp h 2 25 ∧ ∃ s1 n1, LysA h (up S x.toNat s1) (up T x.toNat n1) (up W x.toNat y.toNat) ∧ (∀ j, j < 8 → s1 j = if u.toNat ≤ j ∧ j ≤ v.toNat then 1 else 0) ∧ (∀ j, u.toNat ≤ j → j < v.toNat → n1 (j * 16) = 1) ∧ ∀ i, i < 112 → (∀ j, u.toNat ≤ j → j < v.toNat → i ≠ j * 16) → n1 i = 0) ∨ ((¬ (0 ≤ x ∧ x < 8 ∧ 0 ≤ y ∧ y < 2 ^ (N - 1) ∧ 0 ≤ u ∧ u ≤ v ∧ v < N)) ∧ r = vi 0 ∧ h = hp)) sz) := by
  show Ex _ _ _ _ _ _ [vr 0, vi x, vi y, vi u, vi v, vu, vu] _ _ _ _
  obtain ⟨C0, C1, C2, C3, C4, C5, C6, C7, C8, C9, g, gA, gB⟩ := id C
  have hob := C0.ob
  have hp7 := pw7 hN
  refine x_aload_n (pc := 0) dX6_span_0 rfl ?_
  refine x_iload_n (pc := 1) dX6_span_1 rfl ?_
  refine x_w1 (pc := 2) dX6_span_2 wX6_isLaying iX6_isLaying kX6_82 (by decide) rfl (Nat.le_of_ble_eq_true rfl) (by assumption) (by omega) (t_isLaying C hz hN hx) ?_
  refine x_if_eq (pc := 5) (tgt := 26) dX6_span_5 (by decide) (bz_rg _) (fun c5 => ?_) (fun c5 => ?_)
  · have d1 := bz_e c5
    refine x_iconst (pc := 26) dX6_span_26 ?_
    refine x_zret (pc := 27) dX6_span_27 rfl (by omega) (by first | exact ⟨_, rfl, rfl, Or.inr ⟨fun h => d3 ⟨h.2.2.2.2.1, h.2.2.2.2.2.1, h.2.2.2.2.2.2⟩, rfl, rfl⟩⟩ | exact ⟨_, rfl, rfl, Or.inr ⟨fun h => d1 ⟨h.1, h.2.1⟩, rfl, rfl⟩⟩ | exact ⟨_, rfl, rfl, Or.inr ⟨fun h => d2 ⟨h.2.2.1, h.2.2.2.1⟩, rfl, rfl⟩⟩)
  · have d1 := bz_n c5
    refine x_aload_n (pc := 8) dX6_span_8 rfl ?_
    refine x_iload_n (pc := 9) dX6_span_9 rfl ?_
    refine x_w1 (pc := 10) dX6_span_10 wX6_areWays iX6_areWays kX6_86 (by decide) rfl (Nat.le_of_ble_eq_true rfl) (by assumption) (by omega) (t_areWays C hz hN hy) ?_
    refine x_if_eq (pc := 13) (tgt := 26) dX6_span_13 (by decide) (bz_rg _) (fun c13 => ?_) (fun c13 => ?_)
    · have d2 := bz_e c13
      refine x_iconst (pc := 26) dX6_span_26 ?_
      refine x_zret (pc := 27) dX6_span_27 rfl (by omega) (by first | exact ⟨_, rfl, rfl, Or.inr ⟨fun h => d3 ⟨h.2.2.2.2.1, h.2.2.2.2.2.1, h.2.2.2.2.2.2⟩, rfl, rfl⟩⟩ | exact ⟨_, rfl, rfl, Or.inr ⟨fun h => d1 ⟨h.1, h.2.1⟩, rfl, rfl⟩⟩ | exact ⟨_, rfl, rfl, Or.inr ⟨fun h => d2 ⟨h.2.2.1, h.2.2.2.1⟩, rfl, rfl⟩⟩)
    · have d2 := bz_n c13
      refine x_aload_n (pc := 16) dX6_span_16 rfl ?_
      refine x_iload_n (pc := 17) dX6_span_17 rfl ?_
      refine x_iload (pc := 18) dX6_span_18 rfl ?_
      refine x_w2 (pc := 20) dX6_span_20 wX6_isSpan iX6_isSpan kX6_123 (by decide) rfl (Nat.le_of_ble_eq_true rfl) (by assumption) (by omega) (t_isSpan C hz hN hu hv) ?_
      refine x_if_ne (pc := 23) (tgt := 28) dX6_span_23 (by decide) (bz_rg _) (fun c23 => ?_) (fun c23 => ?_)
      · have d3 := bz_n c23
        obtain ⟨L, hw⟩ := Ls x.toNat (by omega)
        have hoL := L.ob
        obtain ⟨l, rfl⟩ : ∃ l : Nat, x = (l : Int) := ⟨x.toNat, by omega⟩
        obtain ⟨w, rfl⟩ : ∃ w : Nat, y = (w : Int) := ⟨y.toNat, by omega⟩
        obtain ⟨a, rfl⟩ : ∃ a : Nat, u = (a : Int) := ⟨u.toNat, by omega⟩
        obtain ⟨b, rfl⟩ : ∃ b : Nat, v = (b : Int) := ⟨v.toNat, by omega⟩
        rw [Int.toNat_natCast] at L hoL
        simp only [Int.toNat_natCast]
        refine x_aload_n (pc := 28) dX6_span_28 rfl ?_
        refine x_gf (pc := 29) dX6_span_29 fX6_31 (by assumption) (by omega) ?_
        refine x_iload_n (pc := 32) dX6_span_32 rfl ?_
        refine x_al (pc := 33) dX6_span_33 (by assumption) (by omega) rfl (by omega) (gB _ (by omega)) ?_
        refine x_astore (pc := 34) dX6_span_34 (by decide) rfl ?_
        show Ex _ _ _ _ _ _ [_, _, _, _, _, _, _] _ _ _ _
        refine x_aload (pc := 36) dX6_span_36 rfl ?_
        refine x_iload_n (pc := 38) dX6_span_38 rfl ?_
        refine x_p1 (pc := 39) dX6_span_39 wX0_empty iX0_empty kX6_92 (by decide) rfl (Nat.le_of_ble_eq_true rfl) (by assumption) (by omega) (t_empty (x := w) L (by omega)) (fun h39 e39 => ?_)
        obtain ⟨f9, s2, n2, L2, e2, e3⟩ := e39
        have C9 := C.keep (f9 0 (by omega)) (f9 1 (by omega))
        refine x_iload_n (pc := 42) dX6_span_42 rfl ?_
        refine x_istore (pc := 43) dX6_span_43 (by decide) rfl ?_
        show Ex _ _ _ _ _ _ [_, _, _, _, _, _, _] _ _ _ _
        refine l_span1 (q := 2 + 3 * l) hz (by omega) (by omega) a (by omega) h39 s2 L2 (fun h s1 l1 f1 e1 => ?_)
        refine x_iload_n (pc := 67) dX6_span_67 rfl ?_
        refine x_istore (pc := 68) dX6_span_68 (by decide) rfl ?_
        show Ex _ _ _ _ _ _ [_, _, _, _, _, _, _] _ _ _ _
        exact l_span2 (q := 2 + 3 * l) hz (by omega) (by omega) a (by omega) h n2 l1 (fun h4 n1 l4 f4 e4 e5 => ⟨_, rfl, rfl, Or.inl ⟨⟨by omega, by omega, by omega, by omega, by omega, by omega, by omega⟩, rfl, C9.keep ((f1.tr f4) 0 (by omega)) ((f1.tr f4) 1 (by omega)), ((f9.tr f1).tr f4).wide (by omega) (by omega), s1, n1, LysA.one Ls (by omega) ((f9.tr f1).tr f4) l4 (by omega), fun j hj => by
          rw [e1 j]
          by_cases e : a ≤ j ∧ j ≤ b
          · rw [if_pos (by omega), if_pos e]
          · rw [if_neg (by omega), if_neg e]
            exact e2 j hj, e4, fun i hi hne => (e5 i hne).trans (e3 i hi)⟩⟩)
      · have d3 := bz_e c23
        refine x_iconst (pc := 26) dX6_span_26 ?_
        refine x_zret (pc := 27) dX6_span_27 rfl (by omega) (by first | exact ⟨_, rfl, rfl, Or.inr ⟨fun h => d3 ⟨h.2.2.2.2.1, h.2.2.2.2.2.1, h.2.2.2.2.2.2⟩, rfl, rfl⟩⟩ | exact ⟨_, rfl, rfl, Or.inr ⟨fun h => d1 ⟨h.1, h.2.1⟩, rfl, rfl⟩⟩ | exact ⟨_, rfl, rfl, Or.inr ⟨fun h => d2 ⟨h.2.2.1, h.2.2.2.1⟩, rfl, rfl⟩⟩)

set_option maxRecDepth 4000 in
theorem t_mix9 {G : GL} {d : Nat} {hp : HP} {sz : Nat} {p N : Nat} (C : ClsA hp p N) (hz : 92 ≤ sz) (hN : 1 ≤ N ∧ N ≤ 8) (hP : isP p) {S T : Nat → Nat → Int} {W : Nat → Nat} (Ls : LysA hp S T W) (hS : inS S) (hT : ∀ l, l < 8 → inL (T l) p) {x : Int} (hx : -2147483648 ≤ x ∧ x < 2147483648) {y : Int} (hy : -2147483648 ≤ y ∧ y < 2147483648) {u : Int} (hu : -2147483648 ≤ u ∧ u < 2147483648) {v : Int} (hv : -2147483648 ≤ v ∧ v < 2147483648) {z : Int} (hz1 : -2147483648 ≤ z ∧ z < 2147483648) : Ct G (d + 4) 0 0 mX6_mix [vr 0, vi x, vi y, vi u, vi v, vi z] hp sz (Vs (fun r h => ((0 ≤ x ∧ x < 8 ∧ 0 ≤ y ∧ y < N ∧ 0 ≤ u ∧ u < S x.toNat y.toNat ∧ 0 ≤ v ∧ v < S x.toNat y.toNat ∧ u ≠ v ∧ 0 ≤ z ∧ z < p) ∧ r = vi 1 ∧ ClsA h p N ∧ Fr hp h 2 25 ∧ ∃ n1 n2, LysA h S (up T x.toNat n2) W ∧ (if 0 < y.toNat then mixStep p N (W x.toNat) (S x.toNat) (y.toNat - 1) y.toNat u.toNat v.toNat z (T x.toNat) n1 else n1 = T x.toNat) ∧ mixStep p N (W x.toNat) (S x.toNat) y.toNat y.toNat u.toNat v.toNat z n1 n2) ∨ ((¬ (0 ≤ x ∧ x < 8 ∧ 0 ≤ y ∧ y < N ∧ 0 ≤ u ∧ u < S x.toNat y.toNat ∧ 0 ≤ v ∧ v < S x.toNat y.toNat ∧ u ≠ v ∧ 0 ≤ z ∧ z < p)) ∧ r = vi 0 ∧ h = hp)) sz) := by
  show Ex _ _ _ _ _ _ [vr 0, vi x, vi y, vi u, vi v, vi z, vu, vu] _ _ _ _
  obtain ⟨C0, C1, C2, C3, C4, C5, C6, C7, C8, C9, g, gA, gB⟩ := id C
  have hob := C0.ob
  have hpl := hP.le
  refine x_aload_n (pc := 0) dX6_mix_0 rfl ?_
  refine x_iload_n (pc := 1) dX6_mix_1 rfl ?_
  refine x_w1 (pc := 2) dX6_mix_2 wX6_isLaying iX6_isLaying kX6_82 (by decide) rfl (Nat.le_of_ble_eq_true rfl) (by assumption) (by omega) (t_isLaying C hz hN hx) ?_
  refine x_if_eq (pc := 5) (tgt := 36) dX6_mix_5 (by decide) (bz_rg _) (fun c5 => ?_) (fun c5 => ?_)
  · have d1 := bz_e c5
    refine x_iconst (pc := 36) dX6_mix_36 ?_
    refine x_zret (pc := 37) dX6_mix_37 rfl (by omega) ⟨_, rfl, rfl, Or.inr ⟨fun h => by omega, rfl, rfl⟩⟩
  · have d1 := bz_n c5
    refine x_aload_n (pc := 8) dX6_mix_8 rfl ?_
    refine x_iload_n (pc := 9) dX6_mix_9 rfl ?_
    refine x_w1 (pc := 10) dX6_mix_10 wX6_isPost iX6_isPost kX6_117 (by decide) rfl (Nat.le_of_ble_eq_true rfl) (by assumption) (by omega) (t_isPost C hz hN hy) ?_
    refine x_if_eq (pc := 13) (tgt := 36) dX6_mix_13 (by decide) (bz_rg _) (fun c13 => ?_) (fun c13 => ?_)
    · have d2 := bz_e c13
      refine x_iconst (pc := 36) dX6_mix_36 ?_
      refine x_zret (pc := 37) dX6_mix_37 rfl (by omega) ⟨_, rfl, rfl, Or.inr ⟨fun h => by omega, rfl, rfl⟩⟩
    · have d2 := bz_n c13
      refine x_iload_n (pc := 16) dX6_mix_16 rfl ?_
      refine x_iload (pc := 17) dX6_mix_17 rfl ?_
      refine x_icmp_eq (pc := 19) (tgt := 36) dX6_mix_19 (by decide) (by omega) (by omega) (fun c19 => ?_) (fun c19 => ?_)
      · refine x_iconst (pc := 36) dX6_mix_36 ?_
        refine x_zret (pc := 37) dX6_mix_37 rfl (by omega) ⟨_, rfl, rfl, Or.inr ⟨fun h => by omega, rfl, rfl⟩⟩
      · refine x_iload (pc := 22) dX6_mix_22 rfl ?_
        refine x_if_lt (pc := 24) (tgt := 36) dX6_mix_24 (by decide) (by omega) (fun c24 => ?_) (fun c24 => ?_)
        · refine x_iconst (pc := 36) dX6_mix_36 ?_
          refine x_zret (pc := 37) dX6_mix_37 rfl (by omega) ⟨_, rfl, rfl, Or.inr ⟨fun h => by omega, rfl, rfl⟩⟩
        · refine x_iload (pc := 27) dX6_mix_27 rfl ?_
          refine x_aload_n (pc := 29) dX6_mix_29 rfl ?_
          refine x_gf (pc := 30) dX6_mix_30 fX6_13 (by assumption) (by omega) ?_
          refine x_icmp_lt (pc := 33) (tgt := 38) dX6_mix_33 (by decide) (by omega) (by omega) (fun c33 => ?_) (fun c33 => ?_)
          · refine x_aload_n (pc := 38) dX6_mix_38 rfl ?_
            refine x_gf (pc := 39) dX6_mix_39 fX6_31 (by assumption) (by omega) ?_
            refine x_iload_n (pc := 42) dX6_mix_42 rfl ?_
            have hsS := hS x.toNat y.toNat (by omega) (by omega)
            obtain ⟨L, hw⟩ := Ls x.toNat (by omega)
            obtain ⟨L1, L2, L3, L4, L5⟩ := id L
            refine x_al (pc := 43) (j := x.toNat) dX6_mix_43 (by assumption) (by omega) (by omega) (by omega) (gB _ (by omega)) ?_
            refine x_astore (pc := 44) dX6_mix_44 (by decide) rfl ?_
            show Ex _ _ _ _ _ _ [_, _, _, _, _, _, _, _] _ _ _ _
            refine x_iload_n (pc := 46) dX6_mix_46 rfl ?_
            refine x_aload (pc := 47) dX6_mix_47 rfl ?_
            refine x_gn (pc := 49) dX6_mix_49 fX6_95 (by assumption) (by omega) ?_
            refine x_iload_n (pc := 52) dX6_mix_52 rfl ?_
            refine x_il (pc := 53) (j := y.toNat) dX6_mix_53 (by assumption) (by omega) (by omega) (by omega) ?_
            refine x_t2 (pc := 54) dX6_mix_54 wX6_isBelow sX6_isBelow kX6_148 (by decide) rfl (Nat.le_of_ble_eq_true rfl) (t_isBelow hu (by omega)) ?_
            refine x_if_eq (pc := 57) (tgt := 75) dX6_mix_57 (by decide) (bz_rg _) (fun c57 => ?_) (fun c57 => ?_)
            · have d3 := bz_e c57
              refine x_iconst (pc := 75) dX6_mix_75 ?_
              refine x_zret (pc := 76) dX6_mix_76 rfl (by omega) ⟨_, rfl, rfl, Or.inr ⟨fun h => by omega, rfl, rfl⟩⟩
            · have d3 := bz_n c57
              refine x_iload (pc := 60) dX6_mix_60 rfl ?_
              refine x_aload (pc := 62) dX6_mix_62 rfl ?_
              refine x_gn (pc := 64) dX6_mix_64 fX6_95 (by assumption) (by omega) ?_
              refine x_iload_n (pc := 67) dX6_mix_67 rfl ?_
              refine x_il (pc := 68) (j := y.toNat) dX6_mix_68 (by assumption) (by omega) (by omega) (by omega) ?_
              refine x_t2 (pc := 69) dX6_mix_69 wX6_isBelow sX6_isBelow kX6_148 (by decide) rfl (Nat.le_of_ble_eq_true rfl) (t_isBelow hv (by omega)) ?_
              refine x_if_ne (pc := 72) (tgt := 77) dX6_mix_72 (by decide) (bz_rg _) (fun c72 => ?_) (fun c72 => ?_)
              · have d4 := bz_n c72
                refine x_iload_n (pc := 77) dX6_mix_77 rfl ?_
                refine x_iconst (pc := 78) dX6_mix_78 ?_
                refine x_isub (pc := 79) dX6_mix_79 ?_
                refine x_istore (pc := 80) dX6_mix_80 (by decide) rfl ?_
                show Ex _ _ _ _ _ _ [_, _, _, _, _, _, _, _] _ _ _ _
                have hl := Ls x.toNat (by omega)
                have hg : ∀ {α : Type} (F : Nat → α) (l : Nat), up F l (F l) = F := fun F l => by funext b; by_cases e : b = l; (rw [e, up_s]); (rw [up_n _ _ e])
                obtain ⟨l, rfl⟩ : ∃ l : Nat, x = (l : Int) := ⟨x.toNat, by omega⟩
                obtain ⟨t, rfl⟩ : ∃ t : Nat, y = (t : Int) := ⟨y.toNat, by omega⟩
                obtain ⟨i, rfl⟩ : ∃ i : Nat, u = (i : Int) := ⟨u.toNat, by omega⟩
                obtain ⟨j, rfl⟩ : ∃ j : Nat, v = (j : Int) := ⟨v.toNat, by omega⟩
                simp only [Int.toNat_natCast] at L hw d3 d4 hsS ⊢
                exact l_mixA (d := d) (a := 2 + 3 * l) hz hN hP (by omega) (by omega) (by omega) (by omega) (by omega) (fun b hb => hS l b (by omega) hb) hw (by omega) C L (hT l (by omega)) (fun h n2 C1 l1 f1 m1 => by
                  obtain ⟨n1, m1, m2⟩ := m1
                  have q1 := LysA.one Ls (show l < 8 by omega) f1 l1 hw
                  rw [hg, hg] at q1
                  exact ⟨_, rfl, rfl, Or.inl ⟨⟨by omega, by omega, by omega, by omega, by omega, by omega, by omega, by omega, by omega, by omega, by omega⟩, rfl, C1, f1.wide (by omega) (by omega), n1, n2, q1, m1, m2⟩⟩)
              · have d4 := bz_e c72
                refine x_iconst (pc := 75) dX6_mix_75 ?_
                refine x_zret (pc := 76) dX6_mix_76 rfl (by omega) ⟨_, rfl, rfl, Or.inr ⟨fun h => by omega, rfl, rfl⟩⟩
          · refine x_iconst (pc := 36) dX6_mix_36 ?_
            refine x_zret (pc := 37) dX6_mix_37 rfl (by omega) ⟨_, rfl, rfl, Or.inr ⟨fun h => by omega, rfl, rfl⟩⟩

def cellP (N : Nat) (S : Nat → Nat → Int) (W : Nat → Nat) (x y u v : Int) (l k i j : Nat) : Prop := x = (l : Int) ∧ y = (k : Int) ∧ u = (i : Int) ∧ v = (j : Int) ∧ l < 8 ∧ k < N - 1 ∧ (i : Int) < S l (if (W l).testBit k then k else k + 1) ∧ (j : Int) < S l (if (W l).testBit k then k + 1 else k)
def inS (S : Nat → Nat → Int) : Prop := ∀ l j, l < 8 → j < 8 → 0 ≤ S l j ∧ S l j ≤ 4
theorem LysA.one {hp h : HP} {S T : Nat → Nat → Int} {W : Nat → Nat} {l w : Nat} {s n : Nat → Int} (Ls : LysA hp S T W) (hl : l < 8) (f : Fr hp h (2 + 3 * l) (2 + 3 * l + 2)) (L : Lay h (2 + 3 * l) s n w) (hw : w < 128) : LysA h (up S l s) (up T l n) (up W l w) := by
  intro x hx
  by_cases e : x = l
  · subst e
    rw [up_s, up_s, up_s]
    exact ⟨L, hw⟩
  · rw [up_n _ _ e, up_n _ _ e, up_n _ _ e]
    exact ⟨(Ls x hx).1.keep (fun b h1 h2 => f b (by omega)), (Ls x hx).2⟩
theorem LysA.keep {hp h : HP} {S T : Nat → Nat → Int} {W : Nat → Nat} (Ls : LysA hp S T W) (e : ∀ x, 2 ≤ x → x ≤ 25 → h x = hp x) : LysA h S T W := fun l hl => ⟨(Ls l hl).1.keep (fun b h1 h2 => e b (by omega) (by omega)), (Ls l hl).2⟩

set_option maxRecDepth 4000 in
theorem t_get6 {G : GL} {d : Nat} {hp : HP} {sz : Nat} {p N : Nat} (C : ClsA hp p N) (hz : 92 ≤ sz) (hN : 1 ≤ N ∧ N ≤ 8) {S T : Nat → Nat → Int} {W : Nat → Nat} (Ls : LysA hp S T W) (hS : inS S) {x : Int} (hx : -2147483648 ≤ x ∧ x < 2147483648) {y : Int} (hy : -2147483648 ≤ y ∧ y < 2147483648) {u : Int} (hu : -2147483648 ≤ u ∧ u < 2147483648) {v : Int} (hv : -2147483648 ≤ v ∧ v < 2147483648) : Ct G (d + 4) 0 0 mX6_get [vr 0, vi x, vi y, vi u, vi v] hp sz (Vs (fun r h => h = hp ∧ ∃ z : Int, r = vi z ∧ ((∃ l k i j : Nat, cellP N S W x y u v l k i j ∧ z = T l (k * 16 + i * 4 + j)) ∨ ((¬ ∃ l k i j : Nat, cellP N S W x y u v l k i j) ∧ z = -1))) sz) := by
  show Ex _ _ _ _ _ _ [vr 0, vi x, vi y, vi u, vi v] _ _ _ _
  obtain ⟨C0, C1, C2, C3, C4, C5, C6, C7, C8, C9, g, gA, gB⟩ := id C
  have hob := C0.ob
  refine x_aload_n (pc := 0) dX6_get_0 rfl ?_
  refine x_iload_n (pc := 1) dX6_get_1 rfl ?_
  refine x_iload_n (pc := 2) dX6_get_2 rfl ?_
  refine x_iload_n (pc := 3) dX6_get_3 rfl ?_
  refine x_iload (pc := 4) dX6_get_4 rfl ?_
  refine x_y4 (pc := 6) dX6_get_6 wX6_isCell iX6_isCell kX6_102 (by decide) rfl (Nat.le_of_ble_eq_true rfl) (by assumption) (by omega) (t_isCell C hz hN Ls hS hx hy hu hv) (fun v6 h6 e6 => ?_)
  obtain ⟨rfl, b, rfl, hb⟩ := e6
  refine x_if_eq (pc := 9) (tgt := 28) dX6_get_9 (by decide) (bz_rg _) (fun c9 => ?_) (fun c9 => ?_)
  · have b0 : b = false := by cases b <;> simp_all [bz]
    subst b0
    refine x_iconst (pc := 28) dX6_get_28 ?_
    refine x_iret (pc := 29) dX6_get_29 rfl (by first | exact ⟨_, rfl, rfl, rfl, _, rfl, Or.inl ⟨l, k, i, j, ⟨rfl, rfl, rfl, rfl, hl, hk, hi, hj⟩, rfl⟩⟩ | exact ⟨_, rfl, rfl, rfl, _, rfl, Or.inr ⟨fun h => absurd (hb.mpr h) (by decide), rfl⟩⟩)
  · have b1 : b = true := by cases b <;> simp_all [bz]
    subst b1
    obtain ⟨l, k, i, j, rfl, rfl, rfl, rfl, hl, hk, hi, hj⟩ := hb.mp rfl
    have hs1 := hS l (if (W l).testBit k then k else k + 1) hl (by split <;> omega)
    have hs2 := hS l (if (W l).testBit k then k + 1 else k) hl (by split <;> omega)
    obtain ⟨L, hw⟩ := Ls l hl
    have hoL := L.ob
    refine x_aload_n (pc := 12) dX6_get_12 rfl ?_
    refine x_gf (pc := 13) dX6_get_13 fX6_31 (by assumption) (by omega) ?_
    refine x_iload_n (pc := 16) dX6_get_16 rfl ?_
    refine x_al (pc := 17) dX6_get_17 (by assumption) (by omega) rfl (by omega) (gB _ (by omega)) ?_
    refine x_iload_n (pc := 18) dX6_get_18 rfl ?_
    refine x_iload_n (pc := 19) dX6_get_19 rfl ?_
    refine x_iload (pc := 20) dX6_get_20 rfl ?_
    refine x_w3 (pc := 22) dX6_get_22 wX0_number iX0_number kX6_113 (by decide) rfl (Nat.le_of_ble_eq_true rfl) (by assumption) (by omega) (t_number L (by omega) (k := k) (r := i) (c := j) (by omega) (by omega) (by omega)) ?_
    refine x_goto (pc := 25) (tgt := 29) dX6_get_25 (by decide) ?_
    refine x_iret (pc := 29) dX6_get_29 rfl (by first | exact ⟨_, rfl, rfl, rfl, _, rfl, Or.inl ⟨l, k, i, j, ⟨rfl, rfl, rfl, rfl, hl, hk, hi, hj⟩, rfl⟩⟩ | exact ⟨_, rfl, rfl, rfl, _, rfl, Or.inr ⟨fun h => absurd (hb.mpr h) (by decide), rfl⟩⟩)

set_option maxRecDepth 4000 in
theorem t_set6 {G : GL} {d : Nat} {hp : HP} {sz : Nat} {p N : Nat} (C : ClsA hp p N) (hz : 92 ≤ sz) (hN : 1 ≤ N ∧ N ≤ 8) (hP : isP p) {S T : Nat → Nat → Int} {W : Nat → Nat} (Ls : LysA hp S T W) (hS : inS S) {x : Int} (hx : -2147483648 ≤ x ∧ x < 2147483648) {y : Int} (hy : -2147483648 ≤ y ∧ y < 2147483648) {u : Int} (hu : -2147483648 ≤ u ∧ u < 2147483648) {v : Int} (hv : -2147483648 ≤ v ∧ v < 2147483648) {z : Int} (hz1 : -2147483648 ≤ z ∧ z < 2147483648) : Ct G (d + 4) 0 0 mX6_set [vr 0, vi x, vi y, vi u, vi v, vi z] hp sz (Vs (fun r h => ClsA h p N ∧ Fr hp h 2 28 ∧ ((∃ l k i j : Nat, cellP N S W x y u v l k i j ∧ r = vi 1 ∧ LysA h S (up T l (up (T l) (k * 16 + i * 4 + j) (z % p))) W) ∨ ((¬ ∃ l k i j : Nat, cellP N S W x y u v l k i j) ∧ r = vi 0 ∧ h = hp))) sz) := by
  show Ex _ _ _ _ _ _ [vr 0, vi x, vi y, vi u, vi v, vi z] _ _ _ _
  obtain ⟨C0, C1, C2, C3, C4, C5, C6, C7, C8, C9, g, gA, gB⟩ := id C
  have hob := C0.ob
  refine x_aload_n (pc := 0) dX6_set_0 rfl ?_
  refine x_iload_n (pc := 1) dX6_set_1 rfl ?_
  refine x_iload_n (pc := 2) dX6_set_2 rfl ?_
  refine x_iload_n (pc := 3) dX6_set_3 rfl ?_
  refine x_iload (pc := 4) dX6_set_4 rfl ?_
  refine x_y4 (pc := 6) dX6_set_6 wX6_isCell iX6_isCell kX6_102 (by decide) rfl (Nat.le_of_ble_eq_true rfl) (by assumption) (by omega) (t_isCell C hz hN Ls hS hx hy hu hv) (fun v6 h6 e6 => ?_)
  obtain ⟨rfl, b, rfl, hb⟩ := e6
  refine x_if_ne (pc := 9) (tgt := 14) dX6_set_9 (by decide) (bz_rg _) (fun c9 => ?_) (fun c9 => ?_)
  · have b1 : b = true := by cases b <;> simp_all [bz]
    subst b1
    obtain ⟨l, k, i, j, rfl, rfl, rfl, rfl, hl, hk, hi, hj⟩ := hb.mp rfl
    have hs1 := hS l (if (W l).testBit k then k else k + 1) hl (by split <;> omega)
    have hs2 := hS l (if (W l).testBit k then k + 1 else k) hl (by split <;> omega)
    obtain ⟨L, hw⟩ := Ls l hl
    have hoL := L.ob
    refine x_aload_n (pc := 14) dX6_set_14 rfl ?_
    refine x_gf (pc := 15) dX6_set_15 fX6_31 (by assumption) (by omega) ?_
    refine x_iload_n (pc := 18) dX6_set_18 rfl ?_
    refine x_al (pc := 19) dX6_set_19 (by assumption) (by omega) rfl (by omega) (gB _ (by omega)) ?_
    refine x_iload_n (pc := 20) dX6_set_20 rfl ?_
    refine x_iload_n (pc := 21) dX6_set_21 rfl ?_
    refine x_iload (pc := 22) dX6_set_22 rfl ?_
    refine x_iload (pc := 24) dX6_set_24 rfl ?_
    refine x_aload_n (pc := 26) dX6_set_26 rfl ?_
    refine x_gf (pc := 27) dX6_set_27 fX6_13 (by assumption) (by omega) ?_
    refine x_t2 (pc := 30) dX6_set_30 wJ9_floorMod_7cf53 sJ9_floorMod_7cf53 kX6_106 (by decide) rfl (Nat.le_of_ble_eq_true rfl) (t_floorMod hz1 (by have := hP.le; omega)) ?_
    refine x_p4 (pc := 33) dX6_set_33 wX0_put iX0_put kX6_109 (by decide) rfl (Nat.le_of_ble_eq_true rfl) (by assumption) (by omega) (t_put L (by omega) (k := k) (r := i) (c := j) (by omega) (by omega) (by omega)) (fun h33 e33 => ?_)
    subst e33
    refine x_iconst (pc := 36) dX6_set_36 ?_
    refine x_zret (pc := 37) dX6_set_37 rfl (by omega) (by
      have f1 : Fr h6 (up h6 (2 + 3 * l + 2) (ar 0 112 (up (T l) (k * 16 + i * 4 + j) (z % p)))) (2 + 3 * l) (2 + 3 * l + 2) := Fr.rf.up (by omega) (by omega)
      have q1 := LysA.one (s := S l) (n := up (T l) (k * 16 + i * 4 + j) (z % p)) (w := W l) Ls hl f1 L.upn hw
      have e1 : ∀ {α : Type} (F : Nat → α), up F l (F l) = F := fun F => by funext b; by_cases e : b = l; (rw [e, up_s]); (rw [up_n _ _ e])
      rw [e1, e1] at q1
      exact ⟨_, rfl, rfl, C.keep (f1 0 (by omega)) (f1 1 (by omega)), f1.wide (by omega) (by omega), Or.inl ⟨l, k, i, j, ⟨rfl, rfl, rfl, rfl, hl, hk, hi, hj⟩, rfl, q1⟩⟩)
  · have b0 : b = false := by cases b <;> simp_all [bz]
    subst b0
    refine x_iconst (pc := 12) dX6_set_12 ?_
    refine x_zret (pc := 13) dX6_set_13 rfl (by omega) ⟨_, rfl, rfl, C, Fr.rf, Or.inr ⟨fun h => absurd (hb.mpr h) (by decide), rfl, rfl⟩⟩

theorem l_fit {G : GL} {d : Nat} {hp : HP} {sz : Nat} {p N : Nat} (C : ClsA hp p N) (hz : 92 ≤ sz) (hN : 1 ≤ N ∧ N ≤ 8) {a b : Nat} {s s' n n' : Nat → Int} {w w' : Nat} (L : Lay hp a s n w) (K : Lay hp b s' n' w') (hza : a + 2 < sz) (hzb : b + 2 < sz) (h4 : ∀ j, j < 8 → 0 ≤ s j ∧ s j ≤ 4 ∧ 0 ≤ s' j ∧ s' j ≤ 4) {Q : Option AV → HP → Nat → Prop} : ∀ k, k ≤ N → (∀ r : Bool, (r = true ↔ ∀ j, k ≤ j → j < N → s j + s' j ≤ 4) → Q (some (vi (bz r))) hp sz) → Ex G d 0 0 mX6_fitBeside 2 [vr 0, vr a, vr b, vi k] [] hp sz Q := by
  obtain ⟨C0, C1, C2, C3, C4, C5, C6, C7, C8, C9, g, gA, gB⟩ := id C
  have hob := C0.ob
  obtain ⟨L1, L2, L3, L4, L5⟩ := id L
  obtain ⟨K1, K2, K3, K4, K5⟩ := id K
  refine down (fun hq => ?_) (fun k hk ih hq => ?_)
  · refine x_iload_n (pc := 2) dX6_fitBeside_2 rfl ?_
    refine x_aload_n (pc := 3) dX6_fitBeside_3 rfl ?_
    refine x_gf (pc := 4) dX6_fitBeside_4 fX6_26 (by assumption) (by omega) ?_
    refine x_icmp_ge (pc := 7) (tgt := 35) dX6_fitBeside_7 (by decide) (by omega) (by omega) (fun c7 => ?_) (fun c7 => ?_)
    · refine x_iconst (pc := 35) dX6_fitBeside_35 ?_
      refine x_zret (pc := 36) dX6_fitBeside_36 rfl (Or.inr rfl) (hq true ⟨fun _ j h1 h2 => absurd h2 (by omega), fun _ => rfl⟩)
    · exact absurd c7 (by omega)
  · refine x_iload_n (pc := 2) dX6_fitBeside_2 rfl ?_
    refine x_aload_n (pc := 3) dX6_fitBeside_3 rfl ?_
    refine x_gf (pc := 4) dX6_fitBeside_4 fX6_26 (by assumption) (by omega) ?_
    refine x_icmp_ge (pc := 7) (tgt := 35) dX6_fitBeside_7 (by decide) (by omega) (by omega) (fun c7 => ?_) (fun c7 => ?_)
    · exact absurd c7 (by omega)
    · have h5 := h4 k (by omega)
      refine x_aload_n (pc := 10) dX6_fitBeside_10 rfl ?_
      refine x_gn (pc := 11) dX6_fitBeside_11 fX6_95 (by assumption) (by omega) ?_
      refine x_iload_n (pc := 14) dX6_fitBeside_14 rfl ?_
      refine x_il (pc := 15) dX6_fitBeside_15 (by assumption) (by omega) rfl (by omega) ?_
      refine x_aload_n (pc := 16) dX6_fitBeside_16 rfl ?_
      refine x_gn (pc := 17) dX6_fitBeside_17 fX6_95 (by assumption) (by omega) ?_
      refine x_iload_n (pc := 20) dX6_fitBeside_20 rfl ?_
      refine x_il (pc := 21) dX6_fitBeside_21 (by assumption) (by omega) rfl (by omega) ?_
      refine x_iadd (pc := 22) dX6_fitBeside_22 ?_
      refine x_iconst (pc := 23) dX6_fitBeside_23 ?_
      refine x_icmp_le (pc := 24) (tgt := 29) dX6_fitBeside_24 (by decide) (by omega) (by omega) (fun c24 => ?_) (fun c24 => ?_)
      · refine x_iinc (pc := 29) dX6_fitBeside_29 rfl (by decide) rfl ?_
        show Ex _ _ _ _ _ _ [_, _, _, _] _ _ _ _
        refine x_goto (pc := 32) (tgt := 2) dX6_fitBeside_32 (by decide) ?_
        exact ih (fun r hr => hq r (by
          rw [hr]
          constructor
          · intro h j h1 h2
            by_cases e : j = k
            · subst e; omega
            · exact h j (by omega) h2
          · intro h j h1 h2
            exact h j (by omega) h2))
      · refine x_iconst (pc := 27) dX6_fitBeside_27 ?_
        refine x_zret (pc := 28) dX6_fitBeside_28 rfl (Or.inl rfl) (hq false ⟨fun h => absurd h (by decide), fun h => absurd (h k (by omega) hk) (by omega)⟩)

set_option maxRecDepth 4000 in
theorem t_fit {G : GL} {d : Nat} {hp : HP} {sz : Nat} {p N : Nat} (C : ClsA hp p N) (hz : 92 ≤ sz) (hN : 1 ≤ N ∧ N ≤ 8) {a b : Nat} {s s' n n' : Nat → Int} {w w' : Nat} (L : Lay hp a s n w) (K : Lay hp b s' n' w') (hza : a + 2 < sz) (hzb : b + 2 < sz) (h4 : ∀ j, j < 8 → 0 ≤ s j ∧ s j ≤ 4 ∧ 0 ≤ s' j ∧ s' j ≤ 4) : Ct G d 0 0 mX6_fitBeside [vr 0, vr a, vr b] hp sz (Vs (fun v h => h = hp ∧ ∃ r : Bool, v = vi (bz r) ∧ (r = true ↔ ∀ j, j < N → s j + s' j ≤ 4)) sz) := by
  show Ex _ _ _ _ _ _ [vr 0, vr a, vr b, vu] _ _ _ _
  refine x_iconst (pc := 0) dX6_fitBeside_0 ?_
  refine x_istore_n (pc := 1) dX6_fitBeside_1 (by decide) rfl ?_
  show Ex _ _ _ _ _ _ [_, _, _, _] _ _ _ _
  exact l_fit C hz hN L K hza hzb h4 0 (by omega) (fun r hr => ⟨_, rfl, rfl, rfl, r, rfl, by rw [hr]; exact ⟨fun h j hj => h j (by omega) hj, fun h j _ hj => h j hj⟩⟩)

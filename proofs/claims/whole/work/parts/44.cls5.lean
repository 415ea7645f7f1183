theorem l_span1 {G : GL} {d : Nat} {sz : Nat} (hz : 92 ≤ sz) {a b q w : Nat} (hq9 : 2 ≤ q ∧ q ≤ 23) (hab : a ≤ b ∧ b < 8) {y1 y2 : Int} {Q : Option AV → HP → Nat → Prop} {n : Nat → Int} : ∀ k, k ≤ b + 1 → ∀ (hp : HP) (s : Nat → Int), Lay hp q s n w → (∀ h s1, Lay h q s1 n w → Fr hp h q (q + 2) → (∀ j, s1 j = if k ≤ j ∧ j < b + 1 then 1 else s j) → Ex G (d + 1) 0 0 mX6_span 67 [vr 0, vi y1, vi y2, vi a, vi b, vr q, vi (b + 1 : Nat)] [] h sz Q) → Ex G (d + 1) 0 0 mX6_span 45 [vr 0, vi y1, vi y2, vi a, vi b, vr q, vi k] [] hp sz Q := by
  refine down (fun hp s L hq => ?_) (fun k hk ih hp s L hq => ?_)
  · refine x_iload (pc := 45) dX6_span_45 rfl ?_
    refine x_iload (pc := 47) dX6_span_47 rfl ?_
    refine x_icmp_gt (pc := 49) (tgt := 67) dX6_span_49 (by decide) (by omega) (by omega) (fun c49 => ?_) (fun c49 => ?_)
    · exact hq hp s L Fr.rf (fun j => by rw [if_neg (by omega)])
    · exact absurd c49 (by omega)
  · obtain ⟨L1, L2, L3, L4, L5⟩ := id L
    refine x_iload (pc := 45) dX6_span_45 rfl ?_
    refine x_iload (pc := 47) dX6_span_47 rfl ?_
    refine x_icmp_gt (pc := 49) (tgt := 67) dX6_span_49 (by decide) (by omega) (by omega) (fun c49 => ?_) (fun c49 => ?_)
    · exact absurd c49 (by omega)
    · refine x_aload (pc := 52) dX6_span_52 rfl ?_
      refine x_gn (pc := 54) dX6_span_54 fX6_95 (by assumption) (by omega) ?_
      refine x_iload (pc := 57) dX6_span_57 rfl ?_
      refine x_iconst (pc := 59) dX6_span_59 ?_
      refine x_is (pc := 60) dX6_span_60 (by assumption) (by omega) rfl (by omega) ?_
      refine x_iinc (pc := 61) dX6_span_61 rfl (by decide) rfl ?_
      show Ex _ _ _ _ _ _ [_, _, _, _, _, _, _] _ _ _ _
      refine x_goto (pc := 64) (tgt := 45) dX6_span_64 (by decide) ?_
      exact ih _ _ (L.ups (s' := up s k 1)) (fun h s1 l1 f1 e1 => hq h s1 l1 ((Fr.rf.up (by omega) (by omega)).tr f1) (fun j => by
        rw [e1 j]
        by_cases e : j = k
        · subst e
          rw [if_neg (by omega), up_s, if_pos (by omega)]
        · rw [up_n _ _ e]
          by_cases e2 : k + 1 ≤ j ∧ j < b + 1
          · rw [if_pos e2, if_pos (by omega)]
          · rw [if_neg e2, if_neg (by omega)]))

theorem l_span2 {G : GL} {d : Nat} {sz : Nat} (hz : 92 ≤ sz) {a b q w : Nat} (hq9 : 2 ≤ q ∧ q ≤ 23) (hab : a ≤ b ∧ b < 8) {y1 y2 : Int} {Q : Option AV → HP → Nat → Prop} {s : Nat → Int} : ∀ k, k ≤ b → ∀ (hp : HP) (n : Nat → Int), Lay hp q s n w → (∀ h n1, Lay h q s n1 w → Fr hp h q (q + 2) → (∀ j, k ≤ j → j < b → n1 (j * 16) = 1) → (∀ x, (∀ j, k ≤ j → j < b → x ≠ j * 16) → n1 x = n x) → Q (some (vi 1)) h sz) → Ex G (d + 1) 0 0 mX6_span 70 [vr 0, vi y1, vi y2, vi a, vi b, vr q, vi k] [] hp sz Q := by
  refine down (fun hp n L hq => ?_) (fun k hk ih hp n L hq => ?_)
  · refine x_iload (pc := 70) dX6_span_70 rfl ?_
    refine x_iload (pc := 72) dX6_span_72 rfl ?_
    refine x_icmp_ge (pc := 74) (tgt := 93) dX6_span_74 (by decide) (by omega) (by omega) (fun c74 => ?_) (fun c74 => ?_)
    · refine x_iconst (pc := 93) dX6_span_93 ?_
      refine x_zret (pc := 94) dX6_span_94 rfl (Or.inr rfl) (hq hp n L Fr.rf (fun j h1 h2 => absurd h2 (by omega)) (fun j _ => rfl))
    · exact absurd c74 (by omega)
  · have hoL := L.ob
    refine x_iload (pc := 70) dX6_span_70 rfl ?_
    refine x_iload (pc := 72) dX6_span_72 rfl ?_
    refine x_icmp_ge (pc := 74) (tgt := 93) dX6_span_74 (by decide) (by omega) (by omega) (fun c74 => ?_) (fun c74 => ?_)
    · exact absurd c74 (by omega)
    · refine x_aload (pc := 77) dX6_span_77 rfl ?_
      refine x_iload (pc := 79) dX6_span_79 rfl ?_
      refine x_iconst (pc := 81) dX6_span_81 ?_
      refine x_iconst (pc := 82) dX6_span_82 ?_
      refine x_iconst (pc := 83) dX6_span_83 ?_
      refine x_p4 (pc := 84) dX6_span_84 wX0_put iX0_put kX6_109 (by decide) rfl (Nat.le_of_ble_eq_true rfl) (by assumption) (by omega) (t_put (k := k) (r := 0) (c := 0) L (by omega) (by omega) (by omega) (by omega)) (fun h84 e84 => ?_)
      subst e84
      refine x_iinc (pc := 87) dX6_span_87 rfl (by decide) rfl ?_
      show Ex _ _ _ _ _ _ [_, _, _, _, _, _, _] _ _ _ _
      refine x_goto (pc := 90) (tgt := 70) dX6_span_90 (by decide) ?_
      exact ih _ _ L.upn (fun h n1 l1 f1 e1 e2 => hq h n1 l1 ((Fr.rf.up (by omega) (by omega)).tr f1) (fun j h1 h2 => by
        by_cases e : j = k
        · subst e
          rw [e2 _ (fun i h3 h4 => by omega)]
          exact up_s _ _ _
        · exact e1 j (by omega) h2) (fun j hj => by
        rw [e2 j (fun i h3 h4 => hj i (by omega) h4)]
        exact up_n _ _ (by have := hj k (by omega) hk; omega)))

set_option maxRecDepth 4000 in
theorem t_span6 {G : GL} {d : Nat} {hp : HP} {sz : Nat} {p N : Nat} (C : ClsA hp p N) (hz : 92 ≤ sz) (hN : 1 ≤ N ∧ N ≤ 8) {S T : Nat → Nat → Int} {W : Nat → Nat} (Ls : LysA hp S T W) {x : Int} (hx : -2147483648 ≤ x ∧ x < 2147483648) {y : Int} (hy : -2147483648 ≤ y ∧ y < 2147483648) {u : Int} (hu : -2147483648 ≤ u ∧ u < 2147483648) {v : Int} (hv : -2147483648 ≤ v ∧ v < 2147483648) : Ct G (d + 3) 0 0 mX6_span [vr 0, vi x, vi y, vi u, vi v] hp sz (Vs (fun r h => ((0 ≤ x ∧ x < 8 ∧ 0 ≤ y ∧ y < 2 ^ (N - 1) ∧ 0 ≤ u ∧ u ≤ v ∧ v < N) ∧ r = vi 1 ∧ ClsA h p N ∧ Fr hp h 2 28 ∧ ∃ s1 n1, LysA h (up S x.toNat s1) (up T x.toNat n1) (up W x.toNat y.toNat) ∧ (∀ j, j < 8 → s1 j = if u.toNat ≤ j ∧ j ≤ v.toNat then 1 else 0) ∧ (∀ j, u.toNat ≤ j → j < v.toNat → n1 (j * 16) = 1) ∧ ∀ i, i < 112 → (∀ j, u.toNat ≤ j → j < v.toNat → i ≠ j * 16) → n1 i = 0) ∨ ((¬ (0 ≤ x ∧ x < 8 ∧ 0 ≤ y ∧ y < 2 ^ (N - 1) ∧ 0 ≤ u ∧ u ≤ v ∧ v < N)) ∧ r = vi 0 ∧ h = hp)) sz) := by
  show Ex _ _ _ _ _ _ [vr 0, vi x, vi y, vi u, vi v, vu, vu] _ _ _ _
  obtain ⟨C0, C1, C2, C3, C4, C5, C6, C7, C8, C9, g, gA, gB⟩ := id C
  have hob := C0.ob
  have hp7 := pw7 hN
  refine x_aload_n (pc := 0) dX6_span_0 rfl ?_
  refine x_iload_n (pc := 1) dX6_span_1 rfl ?_
  refine x_w1 (pc := 2) dX6_span_2 wX6_isLaying iX6_isLaying kX6_82 (by decide) rfl (Nat.le_of_ble_eq_true rfl) (by assumption) (by omega) (t_isLaying C hz hN hx) ?_
  refine x_if_eq (pc := 5) (tgt := 26) dX6_span_5 (by decide) (bz_rg _) (fun c5 => ?_) (fun c5 => ?_)
  · have d1 := bz_e c5
    refine x_iconst (pc := 26) dX6_span_26 ?_
    refine x_zret (pc := 27) dX6_span_27 rfl (by omega) (by first | exact ⟨_, rfl, rfl, Or.inr ⟨fun h => d3 ⟨h.2.2.2.2.1, h.2.2.2.2.2.1, h.2.2.2.2.2.2⟩, rfl, rfl⟩⟩ | exact ⟨_, rfl, rfl, Or.inr ⟨fun h => d1 ⟨h.1, h.2.1⟩, rfl, rfl⟩⟩ | exact ⟨_, rfl, rfl, Or.inr ⟨fun h => d2 ⟨h.2.2.1, h.2.2.2.1⟩, rfl, rfl⟩⟩)
  · have d1 := bz_n c5
    refine x_aload_n (pc := 8) dX6_span_8 rfl ?_
    refine x_iload_n (pc := 9) dX6_span_9 rfl ?_
    refine x_w1 (pc := 10) dX6_span_10 wX6_areWays iX6_areWays kX6_86 (by decide) rfl (Nat.le_of_ble_eq_true rfl) (by assumption) (by omega) (t_areWays C hz hN hy) ?_
    refine x_if_eq (pc := 13) (tgt := 26) dX6_span_13 (by decide) (bz_rg _) (fun c13 => ?_) (fun c13 => ?_)
    · have d2 := bz_e c13
      refine x_iconst (pc := 26) dX6_span_26 ?_
      refine x_zret (pc := 27) dX6_span_27 rfl (by omega) (by first | exact ⟨_, rfl, rfl, Or.inr ⟨fun h => d3 ⟨h.2.2.2.2.1, h.2.2.2.2.2.1, h.2.2.2.2.2.2⟩, rfl, rfl⟩⟩ | exact ⟨_, rfl, rfl, Or.inr ⟨fun h => d1 ⟨h.1, h.2.1⟩, rfl, rfl⟩⟩ | exact ⟨_, rfl, rfl, Or.inr ⟨fun h => d2 ⟨h.2.2.1, h.2.2.2.1⟩, rfl, rfl⟩⟩)
    · have d2 := bz_n c13
      refine x_aload_n (pc := 16) dX6_span_16 rfl ?_
      refine x_iload_n (pc := 17) dX6_span_17 rfl ?_
      refine x_iload (pc := 18) dX6_span_18 rfl ?_
      refine x_w2 (pc := 20) dX6_span_20 wX6_isSpan iX6_isSpan kX6_123 (by decide) rfl (Nat.le_of_ble_eq_true rfl) (by assumption) (by omega) (t_isSpan C hz hN hu hv) ?_
      refine x_if_ne (pc := 23) (tgt := 28) dX6_span_23 (by decide) (bz_rg _) (fun c23 => ?_) (fun c23 => ?_)
      · have d3 := bz_n c23
        obtain ⟨L, hw⟩ := Ls x.toNat (by omega)
        have hoL := L.ob
        obtain ⟨l, rfl⟩ : ∃ l : Nat, x = (l : Int) := ⟨x.toNat, by omega⟩
        obtain ⟨w, rfl⟩ : ∃ w : Nat, y = (w : Int) := ⟨y.toNat, by omega⟩
        obtain ⟨a, rfl⟩ : ∃ a : Nat, u = (a : Int) := ⟨u.toNat, by omega⟩
        obtain ⟨b, rfl⟩ : ∃ b : Nat, v = (b : Int) := ⟨v.toNat, by omega⟩
        rw [Int.toNat_natCast] at L hoL
        simp only [Int.toNat_natCast]
        refine x_aload_n (pc := 28) dX6_span_28 rfl ?_
        refine x_gf (pc := 29) dX6_span_29 fX6_31 (by assumption) (by omega) ?_
        refine x_iload_n (pc := 32) dX6_span_32 rfl ?_
        refine x_al (pc := 33) dX6_span_33 (by assumption) (by omega) rfl (by omega) (gB _ (by omega)) ?_
        refine x_astore (pc := 34) dX6_span_34 (by decide) rfl ?_
        show Ex _ _ _ _ _ _ [_, _, _, _, _, _, _] _ _ _ _
        refine x_aload (pc := 36) dX6_span_36 rfl ?_
        refine x_iload_n (pc := 38) dX6_span_38 rfl ?_
        refine x_p1 (pc := 39) dX6_span_39 wX0_empty iX0_empty kX6_92 (by decide) rfl (Nat.le_of_ble_eq_true rfl) (by assumption) (by omega) (t_empty (x := w) L (by omega)) (fun h39 e39 => ?_)
        obtain ⟨f9, s2, n2, L2, e2, e3⟩ := e39
        have C9 := C.keep (f9 0 (by omega)) (f9 1 (by omega))
        refine x_iload_n (pc := 42) dX6_span_42 rfl ?_
        refine x_istore (pc := 43) dX6_span_43 (by decide) rfl ?_
        show Ex _ _ _ _ _ _ [_, _, _, _, _, _, _] _ _ _ _
        refine l_span1 (q := 2 + 3 * l) hz (by omega) (by omega) a (by omega) h39 s2 L2 (fun h s1 l1 f1 e1 => ?_)
        refine x_iload_n (pc := 67) dX6_span_67 rfl ?_
        refine x_istore (pc := 68) dX6_span_68 (by decide) rfl ?_
        show Ex _ _ _ _ _ _ [_, _, _, _, _, _, _] _ _ _ _
        exact l_span2 (q := 2 + 3 * l) hz (by omega) (by omega) a (by omega) h n2 l1 (fun h4 n1 l4 f4 e4 e5 => ⟨_, rfl, rfl, Or.inl ⟨⟨by omega, by omega, by omega, by omega, by omega, by omega, by omega⟩, rfl, C9.keep ((f1.tr f4) 0 (by omega)) ((f1.tr f4) 1 (by omega)), ((f9.tr f1).tr f4).wide (by omega) (by omega), s1, n1, LysA.one Ls (by omega) ((f9.tr f1).tr f4) l4 (by omega), fun j hj => by
          rw [e1 j]
          by_cases e : a ≤ j ∧ j ≤ b
          · rw [if_pos (by omega), if_pos e]
          · rw [if_neg (by omega), if_neg e]
            exact e2 j hj, e4, fun i hi hne => (e5 i hne).trans (e3 i hi)⟩⟩)
      · have d3 := bz_e c23
        refine x_iconst (pc := 26) dX6_span_26 ?_
        refine x_zret (pc := 27) dX6_span_27 rfl (by omega) (by first | exact ⟨_, rfl, rfl, Or.inr ⟨fun h => d3 ⟨h.2.2.2.2.1, h.2.2.2.2.2.1, h.2.2.2.2.2.2⟩, rfl, rfl⟩⟩ | exact ⟨_, rfl, rfl, Or.inr ⟨fun h => d1 ⟨h.1, h.2.1⟩, rfl, rfl⟩⟩ | exact ⟨_, rfl, rfl, Or.inr ⟨fun h => d2 ⟨h.2.2.1, h.2.2.2.1⟩, rfl, rfl⟩⟩)

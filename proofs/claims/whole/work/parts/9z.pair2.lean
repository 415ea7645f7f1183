theorem Mt.cgS {adj : Nat → Nat → Prop} {m n : Nat} {S S' : Nat → Prop} {po pt : Nat → Int} (h : Mt adj m n S po pt) (e : ∀ i, i < m → (S i ↔ S' i)) : Mt adj m n S' po pt := by
  refine ⟨fun i hi hS => h.1 i hi ((e i hi).mpr hS), fun i hi hS => h.2.1 i hi (fun q => hS ((e i hi).mp q)), fun o ho => ?_⟩
  rcases h.2.2 o ho with q | ⟨i, a1, a2, a3⟩
  · exact Or.inl q
  · exact Or.inr ⟨i, a1, (e i a1).mp a2, a3⟩
theorem Js.ch {adj : Nat → Nat → Prop} {m n : Nat} {S : Nat → Prop} {first : Nat} {po pt wt rf : Nat → Int} {W : Nat → Nat} {kn k oth : Nat} (h : Js adj m n S first po pt W kn k oth wt rf) (hr : rf oth = -1) {x : Int} : ∀ j, 1 ≤ j → j < kn → S (W j) ∧ ∃ o j' : Nat, o < n ∧ po (W j) = (o : Int) ∧ j' < j ∧ (up rf oth x) o = (W j' : Int) ∧ adj (W j') o := fun j h1 h2 => by
  obtain ⟨c0, o, j', c1, c2, c3, c4, c5⟩ := h.2.2.2.2.1 j h1 h2
  exact ⟨c0, o, j', c1, c2, c3, (up_n _ _ (fun q => by rw [q, hr] at c4; omega)).trans c4, c5⟩

set_option maxRecDepth 4000 in
theorem k_pr2 {G : GL} {d : Nat} {sz : Nat} (hz : 92 ≤ sz) {b1 b2 : Nat} (hb1 : b1 + 2 < 82) (hb2 : b2 + 2 < 82) {u1 v1 u2 v2 : Nat → Int} {c1 c2 : Nat} (hc1 : c1 ≤ 32) (hc2 : c2 ≤ 32) (r1 : rg8 u1 v1 c1) (r2 : rg8 u2 v2 c2) {most : Nat} (hmo : most ≤ 8) {first : Nat} {S : Nat → Prop} (hS0 : ¬ S first) (hf : first < c1) {po pt : Nat → Int} (hM : Mt (fun i o => csp u1 v1 u2 v2 i o ≤ (most : Int)) c1 c2 S po pt) {hp0 : HP} (S10 : SpA hp0 b1 u1 v1 c1) (S20 : SpA hp0 b2 u2 v2 c2) {Q : Option AV → HP → Nat → Prop} (hyes : ∀ h po1 pt1 rf1 wt1, PrA h po1 pt1 rf1 wt1 → Fr hp0 h 83 86 → Mt (fun i o => csp u1 v1 u2 v2 i o ≤ (most : Int)) c1 c2 (fun i => S i ∨ i = first) po1 pt1 → Q (some (vi 1)) h sz) {k : Nat} : ∀ ot, ot ≤ c2 → ∀ (hp : HP) (rf wt : Nat → Int) (W : Nat → Nat) (kn : Nat), PrA hp po pt rf wt → Fr hp0 hp 83 86 → Js (fun i o => csp u1 v1 u2 v2 i o ≤ (most : Int)) c1 c2 S first po pt W kn k ot wt rf → k < kn → kn ≤ c1 → (∀ h rf1 wt1 W1 kn1, PrA h po pt rf1 wt1 → Fr hp0 h 83 86 → Js (fun i o => csp u1 v1 u2 v2 i o ≤ (most : Int)) c1 c2 S first po pt W1 kn1 k c2 wt1 rf1 → k < kn1 → kn1 ≤ c1 → Ex G (d + 2) 0 0 mX1_pair 136 [vr 82, vr b1, vr b2, vi first, vi most, vi kn1, vi k, vi c2] [] h sz Q) → Ex G (d + 2) 0 0 mX1_pair 31 [vr 82, vr b1, vr b2, vi first, vi most, vi kn, vi k, vi ot] [] hp sz Q := by
  refine down (fun hp rf wt W kn pa ff js hk hkm hq => ?_) (fun ot hot ih hp rf wt W kn pa ff js hk hkm hq => ?_)
  · have S1 := S10.keep (hp' := hp) (fun x h1 h2 => ff x (by omega))
    have S2 := S20.keep (hp' := hp) (fun x h1 h2 => ff x (by omega))
    obtain ⟨A1, A2, A3, A4, A5⟩ := id S1
    obtain ⟨B1, B2, B3, B4, B5⟩ := id S2
    obtain ⟨P1, P2, P3, P4, P5, P6, P7, P8⟩ := id pa
    have hob := pa.ob
    refine x_iload (pc := 31) dX1_pair_31 rfl ?_
    refine x_aload_n (pc := 33) dX1_pair_33 rfl ?_
    refine x_gn (pc := 34) dX1_pair_34 fX1_34 (by assumption) (by omega) ?_
    refine x_icmp_ge (pc := 37) (tgt := 136) dX1_pair_37 (by decide) (by omega) (by omega) (fun c37 => ?_) (fun c37 => ?_)
    · exact hq hp rf wt W kn pa ff js hk hkm
    · exact absurd c37 (by omega)
  · have S1 := S10.keep (hp' := hp) (fun x h1 h2 => ff x (by omega))
    have S2 := S20.keep (hp' := hp) (fun x h1 h2 => ff x (by omega))
    obtain ⟨A1, A2, A3, A4, A5⟩ := id S1
    obtain ⟨B1, B2, B3, B4, B5⟩ := id S2
    obtain ⟨P1, P2, P3, P4, P5, P6, P7, P8⟩ := id pa
    have hob := pa.ob
    have hrr : ∀ o, o < c2 → -2147483648 ≤ rf o ∧ rf o < 2147483648 := fun o ho => js.rfr hc1 o ho
    have hptr : ∀ o, o < c2 → -2147483648 ≤ pt o ∧ pt o < 2147483648 := fun o ho => by
      rcases hM.2.2 o ho with q | ⟨i, a1, a2, a3, a4⟩ <;> omega
    refine x_iload (pc := 31) dX1_pair_31 rfl ?_
    refine x_aload_n (pc := 33) dX1_pair_33 rfl ?_
    refine x_gn (pc := 34) dX1_pair_34 fX1_34 (by assumption) (by omega) ?_
    refine x_icmp_ge (pc := 37) (tgt := 136) dX1_pair_37 (by decide) (by omega) (by omega) (fun c37 => ?_) (fun c37 => ?_)
    · exact absurd c37 (by omega)
    · refine x_aload_n (pc := 40) dX1_pair_40 rfl ?_
      refine x_gf (pc := 41) dX1_pair_41 fX1_18 (by assumption) (by omega) ?_
      refine x_iload (pc := 44) dX1_pair_44 rfl ?_
      refine x_il (pc := 46) dX1_pair_46 (by assumption) (by omega) rfl (by omega) ?_
      refine x_iconst (pc := 47) dX1_pair_47 ?_
      refine x_icmp_ne (pc := 48) (tgt := 130) dX1_pair_48 (by decide) (hrr ot hot) (by omega) (fun c48 => ?_) (fun c48 => ?_)
      · refine x_iinc (pc := 130) dX1_pair_130 rfl (by decide) rfl ?_
        show Ex _ _ _ _ _ _ [_, _, _, _, _, _, _, _] _ _ _ _
        refine x_goto (pc := 133) (tgt := 31) dX1_pair_133 (by decide) ?_
        first
          | exact ih hp rf wt W kn pa ff (js.skip (fun _ => by omega)) hk hkm hq
          | exact ih hp rf wt W kn pa ff (js.skip (fun q => absurd q (by omega))) hk hkm hq
          | exact ih _ _ _ _ (kn + 1) (pa2.uwt (q := up wt kn (i : Int))) (ff2.up (by omega) (by omega)) js2 (by omega) (by omega) hq
      · refine x_aload_n (pc := 51) dX1_pair_51 rfl ?_
        refine x_aload_n (pc := 52) dX1_pair_52 rfl ?_
        refine x_gf (pc := 53) dX1_pair_53 fX1_21 (by assumption) (by omega) ?_
        refine x_iload (pc := 56) dX1_pair_56 rfl ?_
        refine x_il (pc := 58) dX1_pair_58 (by assumption) (by omega) rfl (by omega) ?_
        rw [(js.2.2.1 k hk).1]
        refine x_aload_n (pc := 59) dX1_pair_59 rfl ?_
        refine x_iload (pc := 60) dX1_pair_60 rfl ?_
        refine x_t4 (pc := 62) dX1_pair_62 wX1_cost sX1_cost kX1_50 (by decide) rfl (Nat.le_of_ble_eq_true rfl) (t_cost (d := d) (by omega) (by omega) S1 S2 hc1 hc2 r1 r2 (i := W k) (j := ot) (js.2.2.1 k hk).2 hot) ?_
        refine x_iload (pc := 65) dX1_pair_65 rfl ?_
        refine x_icmp_le (pc := 67) (tgt := 73) dX1_pair_67 (by decide) (by have := csp_rg r1 r2 (js.2.2.1 k hk).2 hot; omega) (by omega) (fun c67 => ?_) (fun c67 => ?_)
        · refine x_aload_n (pc := 73) dX1_pair_73 rfl ?_
          refine x_gf (pc := 74) dX1_pair_74 fX1_18 (by assumption) (by omega) ?_
          refine x_iload (pc := 77) dX1_pair_77 rfl ?_
          refine x_aload_n (pc := 79) dX1_pair_79 rfl ?_
          refine x_gf (pc := 80) dX1_pair_80 fX1_21 (by assumption) (by omega) ?_
          refine x_iload (pc := 83) dX1_pair_83 rfl ?_
          refine x_il (pc := 85) dX1_pair_85 (by assumption) (by omega) rfl (by omega) ?_
          rw [(js.2.2.1 k hk).1]
          refine x_is (pc := 86) dX1_pair_86 (by assumption) (by omega) rfl (by omega) ?_
          have hr9 : rf ot = -1 := by omega
          have pa2 := pa.urf (q := up rf ot (W k : Int))
          have ff2 : Fr hp0 (up hp 85 (ar 0 32 (up rf ot (W k : Int)))) 83 86 := ff.up (by omega) (by omega)
          obtain ⟨P1, P2, P3, P4, P5, P6, P7, P8⟩ := id pa2
          have hob := pa2.ob
          have hpt := hptr ot hot
          refine x_aload_n (pc := 87) dX1_pair_87 rfl ?_
          refine x_gf (pc := 88) dX1_pair_88 fX1_15 (by assumption) (by omega) ?_
          refine x_iload (pc := 91) dX1_pair_91 rfl ?_
          refine x_il (pc := 93) dX1_pair_93 (by assumption) (by omega) rfl (by omega) ?_
          refine x_iconst (pc := 94) dX1_pair_94 ?_
          refine x_icmp_ne (pc := 95) (tgt := 106) dX1_pair_95 (by decide) (by omega) (by omega) (fun c95 => ?_) (fun c95 => ?_)
          · obtain ⟨i, i1, i2, i3, js2⟩ := js.more hM hS0 hot hr9 hk (by omega) (by omega)
            refine x_iload (pc := 106) dX1_pair_106 rfl ?_
            refine x_bipush (pc := 108) dX1_pair_108 (by decide) ?_
            refine x_icmp_ge (pc := 110) (tgt := 130) dX1_pair_110 (by decide) (by omega) (by omega) (fun c110 => ?_) (fun c110 => ?_)
            · exact absurd c110 (by omega)
            · refine x_aload_n (pc := 113) dX1_pair_113 rfl ?_
              refine x_gf (pc := 114) dX1_pair_114 fX1_21 (by assumption) (by omega) ?_
              refine x_iload (pc := 117) dX1_pair_117 rfl ?_
              refine x_aload_n (pc := 119) dX1_pair_119 rfl ?_
              refine x_gf (pc := 120) dX1_pair_120 fX1_15 (by assumption) (by omega) ?_
              refine x_iload (pc := 123) dX1_pair_123 rfl ?_
              refine x_il (pc := 125) dX1_pair_125 (by assumption) (by omega) rfl (by omega) ?_
              rw [i2]
              refine x_is (pc := 126) dX1_pair_126 (by assumption) (by omega) rfl (by omega) ?_
              refine x_iinc (pc := 127) dX1_pair_127 rfl (by decide) rfl ?_
              show Ex _ _ _ _ _ _ [_, _, _, _, _, _, _, _] _ _ _ _
              refine x_iinc (pc := 130) dX1_pair_130 rfl (by decide) rfl ?_
              show Ex _ _ _ _ _ _ [_, _, _, _, _, _, _, _] _ _ _ _
              refine x_goto (pc := 133) (tgt := 31) dX1_pair_133 (by decide) ?_
              first
                | exact ih hp rf wt W kn pa ff (js.skip (fun _ => by omega)) hk hkm hq
                | exact ih hp rf wt W kn pa ff (js.skip (fun q => absurd q (by omega))) hk hkm hq
                | exact ih _ _ _ _ (kn + 1) (pa2.uwt (q := up wt kn (i : Int))) (ff2.up (by omega) (by omega)) js2 (by omega) (by omega) hq
          · refine x_aload_n (pc := 98) dX1_pair_98 rfl ?_
            refine x_iload (pc := 99) dX1_pair_99 rfl ?_
            refine x_p1 (pc := 101) dX1_pair_101 wX1_change iX1_change kX1_54 (by decide) rfl (Nat.le_of_ble_eq_true rfl) (by assumption) (by omega) (t_change hz hc1 hc2 hS0 hf js.2.1 (fun j hj => (js.2.2.1 j hj).2) js.2.2.2.1 (js.ch hr9) hk (by omega) hot (up_s _ _ _) (by omega) (hM.start (by omega)) (fun j' _ => rfl) pa2) (fun h101 e101 => ?_)
            obtain ⟨po1, pt1, g1, g2, g3⟩ := e101
            refine x_iconst (pc := 104) dX1_pair_104 ?_
            refine x_zret (pc := 105) dX1_pair_105 rfl (Or.inr rfl) (hyes _ po1 pt1 _ _ g1 (ff2.tr (g2.wide (by omega) (by omega))) g3)
        · refine x_goto (pc := 70) (tgt := 130) dX1_pair_70 (by decide) ?_
          refine x_iinc (pc := 130) dX1_pair_130 rfl (by decide) rfl ?_
          show Ex _ _ _ _ _ _ [_, _, _, _, _, _, _, _] _ _ _ _
          refine x_goto (pc := 133) (tgt := 31) dX1_pair_133 (by decide) ?_
          first
            | exact ih hp rf wt W kn pa ff (js.skip (fun _ => by omega)) hk hkm hq
            | exact ih hp rf wt W kn pa ff (js.skip (fun q => absurd q (by omega))) hk hkm hq
            | exact ih _ _ _ _ (kn + 1) (pa2.uwt (q := up wt kn (i : Int))) (ff2.up (by omega) (by omega)) js2 (by omega) (by omega) hq

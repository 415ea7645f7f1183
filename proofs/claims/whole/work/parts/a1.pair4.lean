def PrX (h : HP) : Prop := ∃ po pt rf wt, PrA h po pt rf wt
theorem Pm.cg {adj adj' : Nat → Nat → Prop} {dear dear' : Nat → Prop} {m n : Nat} (h1 : ∀ i o, i < m → o < n → (adj i o ↔ adj' i o)) (h2 : ∀ i, i < m → (dear i ↔ dear' i)) : Pm adj dear m n ↔ Pm adj' dear' m n := by
  constructor
  · rintro ⟨φ, a, b⟩
    exact ⟨φ, fun i hi hd => by obtain ⟨c1, c2⟩ := a i hi ((h2 i hi).mpr hd); exact ⟨c1, (h1 i _ hi c1).mp c2⟩, fun i j hi hj d1 d2 e => b i j hi hj ((h2 i hi).mpr d1) ((h2 j hj).mpr d2) e⟩
  · rintro ⟨φ, a, b⟩
    exact ⟨φ, fun i hi hd => by obtain ⟨c1, c2⟩ := a i hi ((h2 i hi).mp hd); exact ⟨c1, (h1 i _ hi c1).mpr c2⟩, fun i j hi hj d1 d2 e => b i j hi hj ((h2 i hi).mp d1) ((h2 j hj).mp d2) e⟩
/-- can the dear ones of the first list be paired? -/
def CPu (u1 v1 : Nat → Int) (c1 : Nat) (u2 v2 : Nat → Int) (c2 most : Nat) : Prop := Pm (fun i o => csp u1 v1 u2 v2 i o ≤ (most : Int)) (fun i => (most : Int) < v1 i - u1 i + 1) c1 c2

set_option maxRecDepth 4000 in
theorem t_canPair {G : GL} {d : Nat} {hp : HP} {sz : Nat} (hz : 92 ≤ sz) {b1 b2 : Nat} (hb1 : b1 + 2 < 82) (hb2 : b2 + 2 < 82) {u1 v1 u2 v2 : Nat → Int} {c1 c2 : Nat} (hc1 : c1 ≤ 32) (hc2 : c2 ≤ 32) (r1 : rg8 u1 v1 c1) (r2 : rg8 u2 v2 c2) {most : Nat} (hmo : most ≤ 8) (S10 : SpA hp b1 u1 v1 c1) (S20 : SpA hp b2 u2 v2 c2) (px : PrX hp) : Ct G (d + 3) 0 0 mX1_canPair [vr 82, vr b1, vr b2, vi most] hp sz (Vs (fun v h => ∃ r : Bool, v = vi (bz r) ∧ (r = true ↔ CPu u1 v1 c1 u2 v2 c2 most) ∧ Fr hp h 83 86 ∧ PrX h) sz) := by
  show Ex _ _ _ _ _ _ [vr 82, vr b1, vr b2, vi most, vu, vu] _ _ _ _
  obtain ⟨po, pt, rf, wt, pa⟩ := px
  obtain ⟨P1, P2, P3, P4, P5, P6, P7, P8⟩ := id pa
  have hob := pa.ob
  refine x_aload_n (pc := 0) dX1_canPair_0 rfl ?_
  refine x_gf (pc := 1) dX1_canPair_1 fX1_9 (by assumption) (by omega) ?_
  refine x_iconst (pc := 4) dX1_canPair_4 ?_
  refine x_q2 (pc := 5) dX1_canPair_5 wJ7_fill_53178 sJ7_fill_53178 kX1_28 (by decide) rfl (Nat.le_of_ble_eq_true rfl) (t_fill P5 (by omega) (by omega)) (fun h5 e5 => ?_)
  subst e5
  have pa1 := pa.upo (q := (fun j => if j < 32 then (-1 : Int) else po j))
  obtain ⟨P1, P2, P3, P4, P5, P6, P7, P8⟩ := id pa1
  have hob1 := pa1.ob
  refine x_aload_n (pc := 8) dX1_canPair_8 rfl ?_
  refine x_gf (pc := 9) dX1_canPair_9 fX1_15 (by assumption) (by omega) ?_
  refine x_iconst (pc := 12) dX1_canPair_12 ?_
  refine x_q2 (pc := 13) dX1_canPair_13 wJ7_fill_53178 sJ7_fill_53178 kX1_28 (by decide) rfl (Nat.le_of_ble_eq_true rfl) (t_fill P6 (by omega) (by omega)) (fun h13 e13 => ?_)
  subst e13
  have pa2 := pa1.upt (q := (fun j => if j < 32 then (-1 : Int) else pt j))
  refine x_iconst (pc := 16) dX1_canPair_16 ?_
  refine x_istore (pc := 17) dX1_canPair_17 (by decide) rfl ?_
  show Ex _ _ _ _ _ _ [_, _, _, _, _, _] _ _ _ _
  exact k_can (d := d) hz hb1 hb2 hc1 hc2 r1 r2 hmo S10 S20 (fun h po1 pt1 rf1 wt1 g1 g2 g3 => ⟨_, rfl, rfl, true, rfl, ⟨fun _ => g3, fun _ => rfl⟩, g2, ⟨_, _, _, _, g1⟩⟩) (fun h po1 pt1 rf1 wt1 g1 g2 g3 => ⟨_, rfl, rfl, false, rfl, ⟨fun q => absurd q (by decide), fun q => absurd q g3⟩, g2, ⟨_, _, _, _, g1⟩⟩) 0 (by omega) _ _ _ _ _ _ pa2 ((Fr.rf.up (by omega) (by omega)).up (by omega) (by omega)) ⟨fun i hi q => absurd q.1 (Nat.not_lt_zero _), fun i hi _ => if_pos (by omega), fun o ho => Or.inl (if_pos (by omega))⟩

theorem k_lc {G : GL} {d : Nat} {sz N : Nat} (hz : 92 ≤ sz) (hN : N ≤ 8) {b1 b2 : Nat} (hb1 : b1 + 2 < 82) (hb2 : b2 + 2 < 82) {u1 v1 u2 v2 : Nat → Int} {c1 c2 : Nat} (hc1 : c1 ≤ 32) (hc2 : c2 ≤ 32) (r1 : rg8 u1 v1 c1) (r2 : rg8 u2 v2 c2) {hp0 : HP} (S10 : SpA hp0 b1 u1 v1 c1) (S20 : SpA hp0 b2 u2 v2 c2) {Q : Option AV → HP → Nat → Prop} (hq : ∀ h (r : Nat), PrX h → Fr hp0 h 83 86 → (r ≤ N ∧ (∀ q, q < r → ¬ (CPu u1 v1 c1 u2 v2 c2 q ∧ CPu u2 v2 c2 u1 v1 c1 q)) ∧ (r < N → (CPu u1 v1 c1 u2 v2 c2 r ∧ CPu u2 v2 c2 u1 v1 c1 r))) → Q (some (vi r)) h sz) : ∀ k, k ≤ N → ∀ hp, PrX hp → Fr hp0 hp 83 86 → (∀ q, q < k → ¬ (CPu u1 v1 c1 u2 v2 c2 q ∧ CPu u2 v2 c2 u1 v1 c1 q)) → Ex G (d + 4) 0 0 mX1_leastCost 3 [vr 82, vr b1, vr b2, vi N, vi k] [] hp sz Q := by
  refine down (fun hp px ff hno => ?_) (fun k hk ih hp px ff hno => ?_)
  · have S1 := S10.keep (hp' := hp) (fun x h1 h2 => ff x (by omega))
    have S2 := S20.keep (hp' := hp) (fun x h1 h2 => ff x (by omega))
    have hob : isob hp 82 1 := by obtain ⟨po, pt, rf, wt, pa⟩ := px; exact pa.ob
    refine x_iload (pc := 3) dX1_leastCost_3 rfl ?_
    refine x_iload_n (pc := 5) dX1_leastCost_5 rfl ?_
    refine x_icmp_ge (pc := 6) (tgt := 40) dX1_leastCost_6 (by decide) (by omega) (by omega) (fun c6 => ?_) (fun c6 => ?_)
    · refine x_iload_n (pc := 40) dX1_leastCost_40 rfl ?_
      refine x_iret (pc := 41) dX1_leastCost_41 rfl (hq hp N px ff ⟨Nat.le_refl _, hno, fun q => absurd q (Nat.lt_irrefl _)⟩)
    · exact absurd c6 (by omega)
  · have S1 := S10.keep (hp' := hp) (fun x h1 h2 => ff x (by omega))
    have S2 := S20.keep (hp' := hp) (fun x h1 h2 => ff x (by omega))
    have hob : isob hp 82 1 := by obtain ⟨po, pt, rf, wt, pa⟩ := px; exact pa.ob
    refine x_iload (pc := 3) dX1_leastCost_3 rfl ?_
    refine x_iload_n (pc := 5) dX1_leastCost_5 rfl ?_
    refine x_icmp_ge (pc := 6) (tgt := 40) dX1_leastCost_6 (by decide) (by omega) (by omega) (fun c6 => ?_) (fun c6 => ?_)
    · exact absurd c6 (by omega)
    · refine x_aload_n (pc := 9) dX1_leastCost_9 rfl ?_
      refine x_aload_n (pc := 10) dX1_leastCost_10 rfl ?_
      refine x_aload_n (pc := 11) dX1_leastCost_11 rfl ?_
      refine x_iload (pc := 12) dX1_leastCost_12 rfl ?_
      refine x_y3 (pc := 14) dX1_leastCost_14 wX1_canPair iX1_canPair kX1_24 (by decide) rfl (Nat.le_of_ble_eq_true rfl) (by assumption) (by omega) (t_canPair (d := d) hz hb1 hb2 hc1 hc2 r1 r2 (most := k) (by omega) S1 S2 px) (fun v14 h14 e14 => ?_)
      obtain ⟨ra, rfl, hra, f14, px1⟩ := e14
      have S1b := S1.keep (hp' := h14) (fun x h1 h2 => f14 x (by omega))
      have S2b := S2.keep (hp' := h14) (fun x h1 h2 => f14 x (by omega))
      have ff1 := ff.tr f14
      have hob1 : isob h14 82 1 := by obtain ⟨po, pt, rf, wt, pa⟩ := px1; exact pa.ob
      refine x_if_eq (pc := 17) (tgt := 34) dX1_leastCost_17 (by decide) (bz_rg _) (fun c17 => ?_) (fun c17 => ?_)
      · have hA : ¬ CPu u1 v1 c1 u2 v2 c2 k := fun q => by rw [hra.mpr q] at c17; exact absurd c17 (by decide)
        refine x_iinc (pc := 34) dX1_leastCost_34 rfl (by decide) rfl ?_
        show Ex _ _ _ _ _ _ [_, _, _, _, _] _ _ _ _
        refine x_goto (pc := 37) (tgt := 3) dX1_leastCost_37 (by decide) ?_
        first
          | exact ih _ px2 ff2 (fun q hq9 => by
              by_cases e : q = k
              · subst e; exact fun z => hB z.2
              · exact hno q (by omega))
          | exact ih _ px1 ff1 (fun q hq9 => by
              by_cases e : q = k
              · subst e; exact fun z => hA z.1
              · exact hno q (by omega))
      · have hA : CPu u1 v1 c1 u2 v2 c2 k := hra.mp (by cases ra; exact absurd rfl c17; rfl)
        refine x_aload_n (pc := 20) dX1_leastCost_20 rfl ?_
        refine x_aload_n (pc := 21) dX1_leastCost_21 rfl ?_
        refine x_aload_n (pc := 22) dX1_leastCost_22 rfl ?_
        refine x_iload (pc := 23) dX1_leastCost_23 rfl ?_
        refine x_y3 (pc := 25) dX1_leastCost_25 wX1_canPair iX1_canPair kX1_24 (by decide) rfl (Nat.le_of_ble_eq_true rfl) hob1 (by omega) (t_canPair (d := d) hz hb2 hb1 hc2 hc1 r2 r1 (most := k) (by omega) S2b S1b px1) (fun v25 h25 e25 => ?_)
        obtain ⟨rb, rfl, hrb, f25, px2⟩ := e25
        have ff2 := ff1.tr f25
        refine x_if_eq (pc := 28) (tgt := 34) dX1_leastCost_28 (by decide) (bz_rg _) (fun c28 => ?_) (fun c28 => ?_)
        · have hB : ¬ CPu u2 v2 c2 u1 v1 c1 k := fun q => by rw [hrb.mpr q] at c28; exact absurd c28 (by decide)
          refine x_iinc (pc := 34) dX1_leastCost_34 rfl (by decide) rfl ?_
          show Ex _ _ _ _ _ _ [_, _, _, _, _] _ _ _ _
          refine x_goto (pc := 37) (tgt := 3) dX1_leastCost_37 (by decide) ?_
          first
            | exact ih _ px2 ff2 (fun q hq9 => by
                by_cases e : q = k
                · subst e; exact fun z => hB z.2
                · exact hno q (by omega))
            | exact ih _ px1 ff1 (fun q hq9 => by
                by_cases e : q = k
                · subst e; exact fun z => hA z.1
                · exact hno q (by omega))
        · have hB : CPu u2 v2 c2 u1 v1 c1 k := hrb.mp (by cases rb; exact absurd rfl c28; rfl)
          refine x_iload (pc := 31) dX1_leastCost_31 rfl ?_
          refine x_iret (pc := 33) dX1_leastCost_33 rfl (hq _ k px2 ff2 ⟨by omega, hno, fun _ => ⟨hA, hB⟩⟩)

set_option maxRecDepth 4000 in
theorem t_leastCost {G : GL} {d : Nat} {hp : HP} {sz : Nat} {N : Nat} (hz : 92 ≤ sz) (hN : N ≤ 8) {b1 b2 : Nat} (hb1 : b1 + 2 < 82) (hb2 : b2 + 2 < 82) {u1 v1 u2 v2 : Nat → Int} {c1 c2 : Nat} (hc1 : c1 ≤ 32) (hc2 : c2 ≤ 32) (r1 : rg8 u1 v1 c1) (r2 : rg8 u2 v2 c2) (S10 : SpA hp b1 u1 v1 c1) (S20 : SpA hp b2 u2 v2 c2) (px : PrX hp) : Ct G (d + 4) 0 0 mX1_leastCost [vr 82, vr b1, vr b2, vi N] hp sz (Vs (fun v h => ∃ r : Nat, v = vi r ∧ PrX h ∧ Fr hp h 83 86 ∧ (r ≤ N ∧ (∀ q, q < r → ¬ (CPu u1 v1 c1 u2 v2 c2 q ∧ CPu u2 v2 c2 u1 v1 c1 q)) ∧ (r < N → (CPu u1 v1 c1 u2 v2 c2 r ∧ CPu u2 v2 c2 u1 v1 c1 r)))) sz) := by
  show Ex _ _ _ _ _ _ [vr 82, vr b1, vr b2, vi N, vu] _ _ _ _
  refine x_iconst (pc := 0) dX1_leastCost_0 ?_
  refine x_istore (pc := 1) dX1_leastCost_1 (by decide) rfl ?_
  show Ex _ _ _ _ _ _ [_, _, _, _, _] _ _ _ _
  exact k_lc (d := d) hz hN hb1 hb2 hc1 hc2 r1 r2 S10 S20 (fun h r g1 g2 g3 => ⟨_, rfl, rfl, r, rfl, g1, g2, g3⟩) 0 (by omega) hp px Fr.rf (fun q h => absurd h (Nat.not_lt_zero _))

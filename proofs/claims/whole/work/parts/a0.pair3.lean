theorem k_pr1 {G : GL} {d : Nat} {sz : Nat} (hz : 92 ≤ sz) {b1 b2 : Nat} (hb1 : b1 + 2 < 82) (hb2 : b2 + 2 < 82) {u1 v1 u2 v2 : Nat → Int} {c1 c2 : Nat} (hc1 : c1 ≤ 32) (hc2 : c2 ≤ 32) (r1 : rg8 u1 v1 c1) (r2 : rg8 u2 v2 c2) {most : Nat} (hmo : most ≤ 8) {first : Nat} {S : Nat → Prop} (hS0 : ¬ S first) (hf : first < c1) {po pt : Nat → Int} (hM : Mt (fun i o => csp u1 v1 u2 v2 i o ≤ (most : Int)) c1 c2 S po pt) {hp0 : HP} (S10 : SpA hp0 b1 u1 v1 c1) (S20 : SpA hp0 b2 u2 v2 c2) {Q : Option AV → HP → Nat → Prop} (hyes : ∀ h po1 pt1 rf1 wt1, PrA h po1 pt1 rf1 wt1 → Fr hp0 h 83 86 → Mt (fun i o => csp u1 v1 u2 v2 i o ≤ (most : Int)) c1 c2 (fun i => S i ∨ i = first) po1 pt1 → Q (some (vi 1)) h sz) {dear : Nat → Prop} (hdf : dear first) (hds : ∀ i, S i → dear i) (hno : ∀ h rf1 wt1, PrA h po pt rf1 wt1 → Fr hp0 h 83 86 → ¬ Pm (fun i o => csp u1 v1 u2 v2 i o ≤ (most : Int)) dear c1 c2 → Q (some (vi 0)) h sz) : ∀ k, k ≤ 32 → ∀ (hp : HP) (rf wt : Nat → Int) (W : Nat → Nat) (kn : Nat) (v7 : AV), PrA hp po pt rf wt → Fr hp0 hp 83 86 → Js (fun i o => csp u1 v1 u2 v2 i o ≤ (most : Int)) c1 c2 S first po pt W kn k 0 wt rf → k ≤ kn → kn ≤ c1 → Ex G (d + 2) 0 0 mX1_pair 21 [vr 82, vr b1, vr b2, vi first, vi most, vi kn, vi k, v7] [] hp sz Q := by
  refine down (fun hp rf wt W kn v7 pa ff js hk hkm => ?_) (fun k hk9 ih hp rf wt W kn v7 pa ff js hk hkm => ?_)
  · have S1 := S10.keep (hp' := hp) (fun x h1 h2 => ff x (by omega))
    have S2 := S20.keep (hp' := hp) (fun x h1 h2 => ff x (by omega))
    obtain ⟨A1, A2, A3, A4, A5⟩ := id S1
    obtain ⟨B1, B2, B3, B4, B5⟩ := id S2
    obtain ⟨P1, P2, P3, P4, P5, P6, P7, P8⟩ := id pa
    have hob := pa.ob
    refine x_iload (pc := 21) dX1_pair_21 rfl ?_
    refine x_iload (pc := 23) dX1_pair_23 rfl ?_
    refine x_icmp_ge (pc := 25) (tgt := 142) dX1_pair_25 (by decide) (by omega) (by omega) (fun c25 => ?_) (fun c25 => ?_)
    · refine x_iconst (pc := 142) dX1_pair_142 ?_
      refine x_zret (pc := 143) dX1_pair_143 rfl (Or.inl rfl) (hno hp rf wt pa ff (Js.none (show Js (fun i o => csp u1 v1 u2 v2 i o ≤ (most : Int)) c1 c2 S first po pt W kn kn 0 wt rf from (show 32 = kn by omega) ▸ js) hM hdf hds))
    · exact absurd c25 (by omega)
  · have S1 := S10.keep (hp' := hp) (fun x h1 h2 => ff x (by omega))
    have S2 := S20.keep (hp' := hp) (fun x h1 h2 => ff x (by omega))
    obtain ⟨A1, A2, A3, A4, A5⟩ := id S1
    obtain ⟨B1, B2, B3, B4, B5⟩ := id S2
    obtain ⟨P1, P2, P3, P4, P5, P6, P7, P8⟩ := id pa
    have hob := pa.ob
    refine x_iload (pc := 21) dX1_pair_21 rfl ?_
    refine x_iload (pc := 23) dX1_pair_23 rfl ?_
    refine x_icmp_ge (pc := 25) (tgt := 142) dX1_pair_25 (by decide) (by omega) (by omega) (fun c25 => ?_) (fun c25 => ?_)
    · refine x_iconst (pc := 142) dX1_pair_142 ?_
      refine x_zret (pc := 143) dX1_pair_143 rfl (Or.inl rfl) (hno hp rf wt pa ff (Js.none (show Js (fun i o => csp u1 v1 u2 v2 i o ≤ (most : Int)) c1 c2 S first po pt W kn kn 0 wt rf from (show k = kn by omega) ▸ js) hM hdf hds))
    · refine x_iconst (pc := 28) dX1_pair_28 ?_
      refine x_istore (pc := 29) dX1_pair_29 (by decide) rfl ?_
      show Ex _ _ _ _ _ _ [_, _, _, _, _, _, _, _] _ _ _ _
      refine k_pr2 (d := d) hz hb1 hb2 hc1 hc2 r1 r2 hmo hS0 hf hM S10 S20 hyes 0 (by omega) hp rf wt W kn pa ff js (by omega) hkm (fun h rf1 wt1 W1 kn1 pa1 ff1 js1 hk1 hkm1 => ?_)
      refine x_iinc (pc := 136) dX1_pair_136 rfl (by decide) rfl ?_
      show Ex _ _ _ _ _ _ [_, _, _, _, _, _, _, _] _ _ _ _
      refine x_goto (pc := 139) (tgt := 21) dX1_pair_139 (by decide) ?_
      exact ih h rf1 wt1 W1 kn1 _ pa1 ff1 js1.next (by omega) hkm1

set_option maxRecDepth 4000 in
theorem t_pair {G : GL} {d : Nat} {hp : HP} {sz : Nat} (hz : 92 ≤ sz) {b1 b2 : Nat} (hb1 : b1 + 2 < 82) (hb2 : b2 + 2 < 82) {u1 v1 u2 v2 : Nat → Int} {c1 c2 : Nat} (hc1 : c1 ≤ 32) (hc2 : c2 ≤ 32) (r1 : rg8 u1 v1 c1) (r2 : rg8 u2 v2 c2) {most : Nat} (hmo : most ≤ 8) {first : Nat} {S : Nat → Prop} (hS0 : ¬ S first) (hf : first < c1) {po pt rf wt : Nat → Int} (hM : Mt (fun i o => csp u1 v1 u2 v2 i o ≤ (most : Int)) c1 c2 S po pt) (S10 : SpA hp b1 u1 v1 c1) (S20 : SpA hp b2 u2 v2 c2) {dear : Nat → Prop} (hdf : dear first) (hds : ∀ i, S i → dear i) (pa : PrA hp po pt rf wt) : Ct G (d + 2) 0 0 mX1_pair [vr 82, vr b1, vr b2, vi first, vi most] hp sz (Vs (fun v h => Fr hp h 83 86 ∧ ∃ (po1 pt1 rf1 wt1 : Nat → Int) (r : Bool), v = vi (bz r) ∧ PrA h po1 pt1 rf1 wt1 ∧ ((r = true ∧ Mt (fun i o => csp u1 v1 u2 v2 i o ≤ (most : Int)) c1 c2 (fun i => S i ∨ i = first) po1 pt1) ∨ (r = false ∧ ¬ Pm (fun i o => csp u1 v1 u2 v2 i o ≤ (most : Int)) dear c1 c2))) sz) := by
  show Ex _ _ _ _ _ _ [vr 82, vr b1, vr b2, vi first, vi most, vu, vu, vu] _ _ _ _
  obtain ⟨P1, P2, P3, P4, P5, P6, P7, P8⟩ := id pa
  have hob := pa.ob
  refine x_aload_n (pc := 0) dX1_pair_0 rfl ?_
  refine x_gf (pc := 1) dX1_pair_1 fX1_18 (by assumption) (by omega) ?_
  refine x_iconst (pc := 4) dX1_pair_4 ?_
  refine x_q2 (pc := 5) dX1_pair_5 wJ7_fill_53178 sJ7_fill_53178 kX1_28 (by decide) rfl (Nat.le_of_ble_eq_true rfl) (t_fill P7 (by omega) (by omega)) (fun h5 e5 => ?_)
  subst e5
  have pa1 := pa.urf (q := (fun j => if j < 32 then (-1 : Int) else rf j))
  obtain ⟨P1, P2, P3, P4, P5, P6, P7, P8⟩ := id pa1
  have hob1 := pa1.ob
  refine x_aload_n (pc := 8) dX1_pair_8 rfl ?_
  refine x_gf (pc := 9) dX1_pair_9 fX1_21 (by assumption) (by omega) ?_
  refine x_iconst (pc := 12) dX1_pair_12 ?_
  refine x_iload_n (pc := 13) dX1_pair_13 rfl ?_
  refine x_is (pc := 14) (j := 0) dX1_pair_14 (by assumption) (by omega) (by omega) (by decide) ?_
  refine x_iconst (pc := 15) dX1_pair_15 ?_
  refine x_istore (pc := 16) dX1_pair_16 (by decide) rfl ?_
  show Ex _ _ _ _ _ _ [_, _, _, _, _, _, _, _] _ _ _ _
  refine x_iconst (pc := 18) dX1_pair_18 ?_
  refine x_istore (pc := 19) dX1_pair_19 (by decide) rfl ?_
  show Ex _ _ _ _ _ _ [_, _, _, _, _, _, _, _] _ _ _ _
  refine k_pr1 (d := d) hz hb1 hb2 hc1 hc2 r1 r2 hmo hS0 hf hM S10 S20 (fun h po1 pt1 rf1 wt1 g1 g2 g3 => ⟨_, rfl, rfl, g2, po1, pt1, rf1, wt1, true, rfl, g1, Or.inl ⟨rfl, g3⟩⟩) hdf hds (fun h rf1 wt1 g1 g2 g3 => ⟨_, rfl, rfl, g2, po, pt, rf1, wt1, false, rfl, g1, Or.inr ⟨rfl, g3⟩⟩) 0 (by omega) _ _ _ (fun _ => first) 1 _ (pa1.uwt (q := up wt 0 (first : Int))) ((Fr.rf.up (by omega) (by omega)).up (by omega) (by omega)) (Js.init hf (up_s _ _ _) (fun o ho => if_pos (by omega))) (by omega) (by omega)

theorem k_can {G : GL} {d : Nat} {sz : Nat} (hz : 92 ≤ sz) {b1 b2 : Nat} (hb1 : b1 + 2 < 82) (hb2 : b2 + 2 < 82) {u1 v1 u2 v2 : Nat → Int} {c1 c2 : Nat} (hc1 : c1 ≤ 32) (hc2 : c2 ≤ 32) (r1 : rg8 u1 v1 c1) (r2 : rg8 u2 v2 c2) {most : Nat} (hmo : most ≤ 8) {hp0 : HP} (S10 : SpA hp0 b1 u1 v1 c1) (S20 : SpA hp0 b2 u2 v2 c2) {Q : Option AV → HP → Nat → Prop} (hyes : ∀ h po1 pt1 rf1 wt1, PrA h po1 pt1 rf1 wt1 → Fr hp0 h 83 86 → Pm (fun i o => csp u1 v1 u2 v2 i o ≤ (most : Int)) (fun i => (most : Int) < v1 i - u1 i + 1) c1 c2 → Q (some (vi 1)) h sz) (hno : ∀ h po1 pt1 rf1 wt1, PrA h po1 pt1 rf1 wt1 → Fr hp0 h 83 86 → ¬ Pm (fun i o => csp u1 v1 u2 v2 i o ≤ (most : Int)) (fun i => (most : Int) < v1 i - u1 i + 1) c1 c2 → Q (some (vi 0)) h sz) : ∀ k, k ≤ c1 → ∀ (hp : HP) (po pt rf wt : Nat → Int) (v5 : AV), PrA hp po pt rf wt → Fr hp0 hp 83 86 → Mt (fun i o => csp u1 v1 u2 v2 i o ≤ (most : Int)) c1 c2 (fun i => i < k ∧ (most : Int) < v1 i - u1 i + 1) po pt → Ex G (d + 3) 0 0 mX1_canPair 19 [vr 82, vr b1, vr b2, vi most, vi k, v5] [] hp sz Q := by
  refine down (fun hp po pt rf wt v5 pa ff hM => ?_) (fun k hk ih hp po pt rf wt v5 pa ff hM => ?_)
  · have S1 := S10.keep (hp' := hp) (fun x h1 h2 => ff x (by omega))
    have S2 := S20.keep (hp' := hp) (fun x h1 h2 => ff x (by omega))
    obtain ⟨A1, A2, A3, A4, A5⟩ := id S1
    obtain ⟨B1, B2, B3, B4, B5⟩ := id S2
    obtain ⟨P1, P2, P3, P4, P5, P6, P7, P8⟩ := id pa
    have hob := pa.ob
    refine x_iload (pc := 19) dX1_canPair_19 rfl ?_
    refine x_aload_n (pc := 21) dX1_canPair_21 rfl ?_
    refine x_gn (pc := 22) dX1_canPair_22 fX1_34 (by assumption) (by omega) ?_
    refine x_icmp_ge (pc := 25) (tgt := 81) dX1_canPair_25 (by decide) (by omega) (by omega) (fun c25 => ?_) (fun c25 => ?_)
    · refine x_iconst (pc := 81) dX1_canPair_81 ?_
      refine x_zret (pc := 82) dX1_canPair_82 rfl (Or.inr rfl) (hyes hp po pt rf wt pa ff (hM.full (fun i hi hd => ⟨hi, hd⟩)))
    · exact absurd c25 (by omega)
  · have S1 := S10.keep (hp' := hp) (fun x h1 h2 => ff x (by omega))
    have S2 := S20.keep (hp' := hp) (fun x h1 h2 => ff x (by omega))
    obtain ⟨A1, A2, A3, A4, A5⟩ := id S1
    obtain ⟨B1, B2, B3, B4, B5⟩ := id S2
    obtain ⟨P1, P2, P3, P4, P5, P6, P7, P8⟩ := id pa
    have hob := pa.ob
    refine x_iload (pc := 19) dX1_canPair_19 rfl ?_
    refine x_aload_n (pc := 21) dX1_canPair_21 rfl ?_
    refine x_gn (pc := 22) dX1_canPair_22 fX1_34 (by assumption) (by omega) ?_
    refine x_icmp_ge (pc := 25) (tgt := 81) dX1_canPair_25 (by decide) (by omega) (by omega) (fun c25 => ?_) (fun c25 => ?_)
    · exact absurd c25 (by omega)
    · refine x_aload_n (pc := 28) dX1_canPair_28 rfl ?_
      refine x_gn (pc := 29) dX1_canPair_29 fX1_40 (by assumption) (by omega) ?_
      refine x_iload (pc := 32) dX1_canPair_32 rfl ?_
      refine x_il (pc := 34) dX1_canPair_34 (by assumption) (by omega) rfl (by omega) ?_
      refine x_aload_n (pc := 35) dX1_canPair_35 rfl ?_
      refine x_gn (pc := 36) dX1_canPair_36 fX1_43 (by assumption) (by omega) ?_
      refine x_iload (pc := 39) dX1_canPair_39 rfl ?_
      refine x_il (pc := 41) dX1_canPair_41 (by assumption) (by omega) rfl (by omega) ?_
      refine x_isub (pc := 42) dX1_canPair_42 ?_
      refine x_iconst (pc := 43) dX1_canPair_43 ?_
      refine x_iadd (pc := 44) dX1_canPair_44 ?_
      refine x_iload_n (pc := 45) dX1_canPair_45 rfl ?_
      refine x_icmp_le (pc := 46) (tgt := 53) dX1_canPair_46 (by decide) (by have := r1 k hk; omega) (by omega) (fun c46 => ?_) (fun c46 => ?_)
      · refine x_iconst (pc := 53) dX1_canPair_53 ?_
        refine x_istore (pc := 54) dX1_canPair_54 (by decide) rfl ?_
        show Ex _ _ _ _ _ _ [_, _, _, _, _, _] _ _ _ _
        refine x_iload (pc := 56) dX1_canPair_56 rfl ?_
        refine x_if_eq (pc := 58) (tgt := 75) dX1_canPair_58 (by decide) (by omega) (fun c58 => ?_) (fun c58 => ?_)
        · refine x_iinc (pc := 75) dX1_canPair_75 rfl (by decide) rfl ?_
          show Ex _ _ _ _ _ _ [_, _, _, _, _, _] _ _ _ _
          refine x_goto (pc := 78) (tgt := 19) dX1_canPair_78 (by decide) ?_
          first
            | exact ih _ _ _ _ _ _ pa ff (hM.cgS (fun i hi => by
                constructor
                · exact fun q => ⟨by omega, q.2⟩
                · intro q
                  have q2 : (most : Int) < v1 i - u1 i + 1 := q.2
                  refine ⟨?_, q.2⟩
                  have q1 : i < k + 1 := q.1
                  by_cases e : i = k
                  · subst e; omega
                  · omega))
            | exact ih _ _ _ _ _ _ pa1 ffb (q67.2.cgS (fun i hi => by
                constructor
                · rintro (q | q)
                  · exact ⟨by have := q.1; omega, q.2⟩
                  · subst q; exact ⟨by omega, by show (most : Int) < v1 i - u1 i + 1; omega⟩
                · intro q
                  have q1 : i < k + 1 := q.1
                  by_cases e : i = k
                  · exact Or.inr e
                  · exact Or.inl ⟨by omega, q.2⟩))
        · refine x_aload_n (pc := 61) dX1_canPair_61 rfl ?_
          refine x_aload_n (pc := 62) dX1_canPair_62 rfl ?_
          refine x_aload_n (pc := 63) dX1_canPair_63 rfl ?_
          refine x_iload (pc := 64) dX1_canPair_64 rfl ?_
          refine x_iload_n (pc := 66) dX1_canPair_66 rfl ?_
          refine x_y4 (pc := 67) dX1_canPair_67 wX1_pair iX1_pair kX1_46 (by decide) rfl (Nat.le_of_ble_eq_true rfl) (by assumption) (by omega) (t_pair (d := d) hz hb1 hb2 hc1 hc2 r1 r2 hmo (first := k) (S := (fun i => i < k ∧ (most : Int) < v1 i - u1 i + 1)) (dear := (fun i => (most : Int) < v1 i - u1 i + 1)) (fun q => Nat.lt_irrefl _ q.1) hk hM S1 S2 (by show (most : Int) < v1 k - u1 k + 1; omega) (fun i q => q.2) pa) (fun v67 h67 e67 => ?_)
          obtain ⟨f67, po1, pt1, rf1, wt1, r67, rfl, pa1, q67⟩ := e67
          have ffb := ff.tr f67
          refine x_if_ne (pc := 70) (tgt := 75) dX1_canPair_70 (by decide) (bz_rg _) (fun c70 => ?_) (fun c70 => ?_)
          · replace q67 := q67.resolve_right (fun q => by rw [q.1] at c70; exact absurd rfl c70)
            refine x_iinc (pc := 75) dX1_canPair_75 rfl (by decide) rfl ?_
            show Ex _ _ _ _ _ _ [_, _, _, _, _, _] _ _ _ _
            refine x_goto (pc := 78) (tgt := 19) dX1_canPair_78 (by decide) ?_
            first
              | exact ih _ _ _ _ _ _ pa ff (hM.cgS (fun i hi => by
                  constructor
                  · exact fun q => ⟨by omega, q.2⟩
                  · intro q
                    have q2 : (most : Int) < v1 i - u1 i + 1 := q.2
                    refine ⟨?_, q.2⟩
                    have q1 : i < k + 1 := q.1
                    by_cases e : i = k
                    · subst e; omega
                    · omega))
              | exact ih _ _ _ _ _ _ pa1 ffb (q67.2.cgS (fun i hi => by
                  constructor
                  · rintro (q | q)
                    · exact ⟨by have := q.1; omega, q.2⟩
                    · subst q; exact ⟨by omega, by show (most : Int) < v1 i - u1 i + 1; omega⟩
                  · intro q
                    have q1 : i < k + 1 := q.1
                    by_cases e : i = k
                    · exact Or.inr e
                    · exact Or.inl ⟨by omega, q.2⟩))
          · replace q67 := q67.resolve_left (fun q => by rw [q.1] at c70; exact absurd c70 (by decide))
            refine x_iconst (pc := 73) dX1_canPair_73 ?_
            refine x_zret (pc := 74) dX1_canPair_74 rfl (Or.inl rfl) (hno _ po1 pt1 rf1 wt1 pa1 ffb q67.2)
      · refine x_iconst (pc := 49) dX1_canPair_49 ?_
        refine x_goto (pc := 50) (tgt := 54) dX1_canPair_50 (by decide) ?_
        refine x_istore (pc := 54) dX1_canPair_54 (by decide) rfl ?_
        show Ex _ _ _ _ _ _ [_, _, _, _, _, _] _ _ _ _
        refine x_iload (pc := 56) dX1_canPair_56 rfl ?_
        refine x_if_eq (pc := 58) (tgt := 75) dX1_canPair_58 (by decide) (by omega) (fun c58 => ?_) (fun c58 => ?_)
        · refine x_iinc (pc := 75) dX1_canPair_75 rfl (by decide) rfl ?_
          show Ex _ _ _ _ _ _ [_, _, _, _, _, _] _ _ _ _
          refine x_goto (pc := 78) (tgt := 19) dX1_canPair_78 (by decide) ?_
          first
            | exact ih _ _ _ _ _ _ pa ff (hM.cgS (fun i hi => by
                constructor
                · exact fun q => ⟨by omega, q.2⟩
                · intro q
                  have q2 : (most : Int) < v1 i - u1 i + 1 := q.2
                  refine ⟨?_, q.2⟩
                  have q1 : i < k + 1 := q.1
                  by_cases e : i = k
                  · subst e; omega
                  · omega))
            | exact ih _ _ _ _ _ _ pa1 ffb (q67.2.cgS (fun i hi => by
                constructor
                · rintro (q | q)
                  · exact ⟨by have := q.1; omega, q.2⟩
                  · subst q; exact ⟨by omega, by show (most : Int) < v1 i - u1 i + 1; omega⟩
                · intro q
                  have q1 : i < k + 1 := q.1
                  by_cases e : i = k
                  · exact Or.inr e
                  · exact Or.inl ⟨by omega, q.2⟩))
        · refine x_aload_n (pc := 61) dX1_canPair_61 rfl ?_
          refine x_aload_n (pc := 62) dX1_canPair_62 rfl ?_
          refine x_aload_n (pc := 63) dX1_canPair_63 rfl ?_
          refine x_iload (pc := 64) dX1_canPair_64 rfl ?_
          refine x_iload_n (pc := 66) dX1_canPair_66 rfl ?_
          refine x_y4 (pc := 67) dX1_canPair_67 wX1_pair iX1_pair kX1_46 (by decide) rfl (Nat.le_of_ble_eq_true rfl) (by assumption) (by omega) (t_pair (d := d) hz hb1 hb2 hc1 hc2 r1 r2 hmo (first := k) (S := (fun i => i < k ∧ (most : Int) < v1 i - u1 i + 1)) (dear := (fun i => (most : Int) < v1 i - u1 i + 1)) (fun q => Nat.lt_irrefl _ q.1) hk hM S1 S2 (by show (most : Int) < v1 k - u1 k + 1; omega) (fun i q => q.2) pa) (fun v67 h67 e67 => ?_)
          obtain ⟨f67, po1, pt1, rf1, wt1, r67, rfl, pa1, q67⟩ := e67
          have ffb := ff.tr f67
          refine x_if_ne (pc := 70) (tgt := 75) dX1_canPair_70 (by decide) (bz_rg _) (fun c70 => ?_) (fun c70 => ?_)
          · replace q67 := q67.resolve_right (fun q => by rw [q.1] at c70; exact absurd rfl c70)
            refine x_iinc (pc := 75) dX1_canPair_75 rfl (by decide) rfl ?_
            show Ex _ _ _ _ _ _ [_, _, _, _, _, _] _ _ _ _
            refine x_goto (pc := 78) (tgt := 19) dX1_canPair_78 (by decide) ?_
            first
              | exact ih _ _ _ _ _ _ pa ff (hM.cgS (fun i hi => by
                  constructor
                  · exact fun q => ⟨by omega, q.2⟩
                  · intro q
                    have q2 : (most : Int) < v1 i - u1 i + 1 := q.2
                    refine ⟨?_, q.2⟩
                    have q1 : i < k + 1 := q.1
                    by_cases e : i = k
                    · subst e; omega
                    · omega))
              | exact ih _ _ _ _ _ _ pa1 ffb (q67.2.cgS (fun i hi => by
                  constructor
                  · rintro (q | q)
                    · exact ⟨by have := q.1; omega, q.2⟩
                    · subst q; exact ⟨by omega, by show (most : Int) < v1 i - u1 i + 1; omega⟩
                  · intro q
                    have q1 : i < k + 1 := q.1
                    by_cases e : i = k
                    · exact Or.inr e
                    · exact Or.inl ⟨by omega, q.2⟩))
          · replace q67 := q67.resolve_left (fun q => by rw [q.1] at c70; exact absurd c70 (by decide))
            refine x_iconst (pc := 73) dX1_canPair_73 ?_
            refine x_zret (pc := 74) dX1_canPair_74 rfl (Or.inl rfl) (hno _ po1 pt1 rf1 wt1 pa1 ffb q67.2)

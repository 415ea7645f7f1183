theorem CovA.put {h : HP} {Kc : Nat → Nat → Int} {i : Nat} {g : Nat → Int} (c : CovA h 37 Kc) (hi : i < 10) : CovA (up h (38 + i) (ar 0 10 g)) 37 (up Kc i g) := by
  obtain ⟨⟨g', h1, h2⟩, h3⟩ := c
  refine ⟨⟨g', (up_n _ _ (by omega)).trans h1, h2⟩, fun j hj => ?_⟩
  by_cases e : j = i
  · subst e; rw [up_s, up_s]
  · rw [up_n _ _ e, up_n _ _ (by omega)]; exact h3 j hj
def PaX (h : HP) (p N : Nat) (Kc : Nat → Nat → Int) : Prop := ∃ bw bn bx, PaF h p N bw bn bx ∧ CovA h 37 Kc ∧ RwX h 48 p ∧ RwX h bw p ∧ RwX h bn p ∧ RwX h bx p ∧ in3 bw ∧ in3 bn ∧ in3 bx ∧ bw ≠ bn ∧ bw ≠ bx ∧ bn ≠ bx
theorem PaX.keep {h h' : HP} {p N : Nat} {Kc : Nat → Nat → Int} (P : PaX h p N Kc) (e : ∀ x, 36 ≤ x → x ≤ 75 → h' x = h x) : PaX h' p N Kc := by
  obtain ⟨bw, bn, bx, p1, p2, p3, p4, p5, p6, p7, p8, p9, q⟩ := P
  refine ⟨bw, bn, bx, p1.keep (e _ (by omega) (by omega)), p2.keep (fun x _ _ => e x (by omega) (by omega)), p3.keep (fun x _ _ => e x (by omega) (by omega)), p4.keep (fun x _ _ => e x (by unfold in3 at p7; omega) (by unfold in3 at p7; omega)), p5.keep (fun x _ _ => e x (by unfold in3 at p8; omega) (by unfold in3 at p8; omega)), p6.keep (fun x _ _ => e x (by unfold in3 at p9; omega) (by unfold in3 at p9; omega)), p7, p8, p9, q⟩
theorem RwK.cnt {K : Type} [Lean.Grind.CommRing K] {p : Nat} {f : Int → K} (hf : Iot p f) (hP : isP p) {h : HP} {b c w R : Nat} {C : Nat → Bool} {y : Nat → Nat → K} (r : RwK f h b p c w (fun v => Spn R (fun r => C r = true) y v)) (hI : Ind R (fun r => C r = true) y) : c = cnt R C := by
  obtain ⟨M, hd, a1, a2, a3, a4, a5⟩ := r
  obtain ⟨H, rk, -⟩ := a3.toRK hf
  exact dim_B (hf.inv hP) (hf.ne hP.le.1) hI rk.ind (fun v => (a5 v).symm)
theorem RwK.cgV {K : Type} [Lean.Grind.CommRing K] {p : Nat} {f : Int → K} {h : HP} {b c w : Nat} {V V' : (Nat → K) → Prop} (r : RwK f h b p c w V) (e : ∀ v, V v ↔ V' v) : RwK f h b p c w V' := by
  obtain ⟨M, hd, a1, a2, a3, a4, a5⟩ := r
  exact ⟨M, hd, a1, a2, a3, a4, fun v => (a5 v).trans (e v)⟩
theorem RwK.flds {K : Type} [Lean.Grind.CommRing K] {p : Nat} {f : Int → K} {h : HP} {b c w : Nat} {V : (Nat → K) → Prop} (r : RwK f h b p c w V) : fld h b 3 3 (vi c) := by
  obtain ⟨M, hd, ⟨g, σ, a1⟩, -⟩ := r
  exact a1.2.2.2.1
theorem RwK.ob {K : Type} [Lean.Grind.CommRing K] {p : Nat} {f : Int → K} {h : HP} {b c w : Nat} {V : (Nat → K) → Prop} (r : RwK f h b p c w V) : isob h b 3 := r.flds.ob

theorem led_W {K : Type} [Lean.Grind.CommRing K] {f : Int → K} {p N : Nat} (hf : Iot p f) (hP : isP p) {w : Nat} (hw : w < 128) {s' n : Nat → Int} {s : Nat → Nat} (hs : cs8 s' s) (hn : inL n p) {R : Nat} {st en : Nat → Nat} {x : Nat → Nat → Nat → K} (hB : Bar N 4 s (Lw w) (TK f n (Lw w) s 0) R st en x) (hN : 1 ≤ N ∧ N ≤ 8) {i0 q : Nat} (hq : q + 1 < N) (hiq : i0 ≤ q) (v : Nat → K) : Ldv 4 s (Lw w) (TK f n (Lw w) s 0) q (fun v => Spn R (fun r => Cw (Lw w) st en i0 q r = true) (fun r => x r q) v) v ↔ (fun v => Spn R (fun r => Cw (Lw w) st en i0 (q + 1) r = true) (fun r => x r (q + 1)) v) v := by
  rw [hB.led hq (fun i j h => TK_out q i j h) (C := fun r => Cw (Lw w) st en i0 q r = true) (fun r hr => by unfold Cw at hr; simp only [Bool.and_eq_true, decide_eq_true_eq] at hr; exact hr.1) (fun v => Iff.rfl) v]
  constructor
  · exact fun h => h.cgA (fun r _ z => (Cw_s hiq).mpr z)
  · exact fun h => h.cgA (fun r _ z => (Cw_s hiq).mp z)
theorem led_N {K : Type} [Lean.Grind.CommRing K] {f : Int → K} {p N : Nat} (hf : Iot p f) (hP : isP p) {w : Nat} (hw : w < 128) {s' n : Nat → Int} {s : Nat → Nat} (hs : cs8 s' s) (hn : inL n p) {R : Nat} {st en : Nat → Nat} {x : Nat → Nat → Nat → K} (hB : Bar N 4 s (Lw w) (TK f n (Lw w) s 0) R st en x) (hN : 1 ≤ N ∧ N ≤ 8) {i0 q : Nat} (hq : q + 1 < N) (hiq : i0 ≤ q) (v : Nat → K) : Ldv 4 s (Lw w) (TK f n (Lw w) s 0) q (fun v => Spn R (fun r => Cn (Lw w) st en i0 q r = true) (fun r => x r q) v) v ↔ (fun v => Spn R (fun r => Cn (Lw w) st en i0 (q + 1) r = true) (fun r => x r (q + 1)) v) v := by
  rw [hB.led hq (fun i j h => TK_out q i j h) (C := fun r => Cn (Lw w) st en i0 q r = true) (fun r hr => by unfold Cn at hr; simp only [Bool.and_eq_true, decide_eq_true_eq] at hr; exact hr.1) (fun v => Iff.rfl) v]
  constructor
  · exact fun h => h.cgA (fun r _ z => (Cn_s hiq).mpr z)
  · exact fun h => h.cgA (fun r _ z => (Cn_s hiq).mp z)

set_option maxRecDepth 4000 in
theorem k_cov {K : Type} [Lean.Grind.CommRing K] {f : Int → K} {G : GL} {d : Nat} {sz p N : Nat} (hf : Iot p f) (hz : 92 ≤ sz) (hP : isP p) {a w : Nat} (ha : 2 ≤ a ∧ a ≤ 26) (hw : w < 128) {s' n : Nat → Int} {s : Nat → Nat} (hs : cs8 s' s) (hn : inL n p) {R : Nat} {st en : Nat → Nat} {x : Nat → Nat → Nat → K} (hB : Bar N 4 s (Lw w) (TK f n (Lw w) s 0) R st en x) (hN : 1 ≤ N ∧ N ≤ 8) {i0 la : Nat} (hla : la < N) {Q : Option AV → HP → Nat → Prop} : ∀ q, q ≤ la → i0 ≤ q → ∀ (hp : HP) (Kc : Nat → Nat → Int) (bw bn bx cw cn : Nat), Lay hp a s' n w → PaF hp p N bw bn bx → CovA hp 37 Kc → RwX hp 48 p → RwK f hp bw p cw (s q) (fun v => Spn R (fun r => Cw (Lw w) st en i0 q r = true) (fun r => x r q) v) → RwK f hp bn p cn (s q) (fun v => Spn R (fun r => Cn (Lw w) st en i0 q r = true) (fun r => x r q) v) → RwX hp bx p → in3 bw → in3 bn → in3 bx → bw ≠ bn → bw ≠ bx → bn ≠ bx → (∀ j, j < 10 → Kc (i0 + 1) j = if i0 + 1 ≤ j ∧ j ≤ q + 1 then (cov R st en i0 (j - 1) : Int) else 0) → (∀ h K1, Fr hp h 36 75 → PaX h p N K1 → (∀ i, i ≠ i0 + 1 → K1 i = Kc i) → (∀ j, j < 10 → K1 (i0 + 1) j = if i0 + 1 ≤ j ∧ j ≤ la + 1 then (cov R st en i0 (j - 1) : Int) else 0) → Q none h sz) → Ex G (d + 4) 0 0 mX2_coverFrom 59 [vr 36, vr a, vi i0, vi la, vr (39 + i0), vi q] [] hp sz Q := by
  refine down (fun hiq hp Kc bw bn bx cw cn L P CA RC RW RN RX i1 i2 i3 n1 n2 n3 hK hq => ?_) (fun q hq9 ih hiq hp Kc bw bn bx cw cn L P CA RC RW RN RX i1 i2 i3 n1 n2 n3 hK hq => ?_)
  · obtain ⟨F0, F1, F2, F3, F4, F5, F6⟩ := id P
    have hob := F0.ob
    obtain ⟨⟨gk, CA1, CA2⟩, CA3⟩ := id CA
    have hrow := CA3 (i0 + 1) (by omega)
    rw [show 37 + 1 + (i0 + 1) = 39 + i0 by omega] at hrow
    unfold in3 at i1 i2 i3
    refine x_iload (pc := 59) dX2_coverFrom_59 rfl ?_
    refine x_iload_n (pc := 61) dX2_coverFrom_61 rfl ?_
    refine x_icmp_ge (pc := 62) (tgt := 133) dX2_coverFrom_62 (by decide) (by omega) (by omega) (fun c62 => ?_) (fun c62 => ?_)
    · refine x_vret (pc := 133) dX2_coverFrom_133 rfl (hq hp Kc Fr.rf ⟨bw, bn, bx, P, CA, RC, RW.X, RN.X, RX, i1, i2, i3, n1, n2, n3⟩ (fun i _ => rfl) hK)
    · exact absurd c62 (by omega)
  · have h4 := hB.2.2.2.1 q (by omega)
    have ecw := RW.cnt hf hP (h4.cgA (fun r _ z => by unfold Cw at z; simp only [Bool.and_eq_true, decide_eq_true_eq] at z; exact z.1))
    have ecn := RN.cnt hf hP (h4.cgA (fun r _ z => by unfold Cn at z; simp only [Bool.and_eq_true, decide_eq_true_eq] at z; exact z.1))
    obtain ⟨F0, F1, F2, F3, F4, F5, F6⟩ := id P
    have hob := F0.ob
    obtain ⟨⟨gk, CA1, CA2⟩, CA3⟩ := id CA
    have hrow := CA3 (i0 + 1) (by omega)
    rw [show 37 + 1 + (i0 + 1) = 39 + i0 by omega] at hrow
    unfold in3 at i1 i2 i3
    refine x_iload (pc := 59) dX2_coverFrom_59 rfl ?_
    refine x_iload_n (pc := 61) dX2_coverFrom_61 rfl ?_
    refine x_icmp_ge (pc := 62) (tgt := 133) dX2_coverFrom_62 (by decide) (by omega) (by omega) (fun c62 => ?_) (fun c62 => ?_)
    · exact absurd c62 (by omega)
    · refine x_aload (pc := 65) dX2_coverFrom_65 rfl ?_
      refine x_iload (pc := 67) dX2_coverFrom_67 rfl ?_
      refine x_iconst (pc := 69) dX2_coverFrom_69 ?_
      refine x_iadd (pc := 70) dX2_coverFrom_70 ?_
      refine x_il (pc := 71) (j := q + 1) dX2_coverFrom_71 (by assumption) (by omega) (by omega) (by omega) ?_
      rw [hK (q + 1) (by omega), if_pos ⟨by omega, by omega⟩, show q + 1 - 1 = q by omega]
      have hcl : cov R st en i0 q ≤ cw := by rw [ecw]; have := cnt_wn (Lf := Lw w) (st := st) (en := en) hiq R; omega
      have hcw4 : cw ≤ 4 := by obtain ⟨_, _, _, _, _, q4, _⟩ := RW; exact q4
      refine x_if_le (pc := 72) (tgt := 133) dX2_coverFrom_72 (by decide) (by omega) (fun c72 => ?_) (fun c72 => ?_)
      · have hstop : cov R st en i0 q = 0 := by omega
        refine x_vret (pc := 133) dX2_coverFrom_133 rfl (hq hp Kc Fr.rf ⟨bw, bn, bx, P, CA, RC, RW.X, RN.X, RX, i1, i2, i3, n1, n2, n3⟩ (fun i _ => rfl) (fun j hj => by
          rw [hK j hj]
          have h0 := hK (q + 1) (by omega)
          rw [if_pos ⟨by omega, by omega⟩, show q + 1 - 1 = q by omega] at h0
          by_cases e1 : i0 + 1 ≤ j ∧ j ≤ q + 1
          · rw [if_pos e1, if_pos (by omega)]
          · rw [if_neg e1]
            by_cases e2 : i0 + 1 ≤ j ∧ j ≤ la + 1
            · rw [if_pos e2]
              have hz9 : ∀ dd, cov R st en i0 (q + dd) = 0 := by
                intro dd
                induction dd with
                | zero => rw [Nat.add_zero]; omega
                | succ dd ih => have := cov_mono (R := R) (st := st) (en := en) (a := i0) (k := q + dd); rw [← Nat.add_assoc]; omega
              have := hz9 (j - 1 - q)
              rw [show q + (j - 1 - q) = j - 1 by omega] at this
              rw [this]; rfl
            · rw [if_neg e2]))
      · refine x_aload_n (pc := 75) dX2_coverFrom_75 rfl ?_
        refine x_aload_n (pc := 76) dX2_coverFrom_76 rfl ?_
        refine x_aload_n (pc := 77) dX2_coverFrom_77 rfl ?_
        refine x_iload (pc := 78) dX2_coverFrom_78 rfl ?_
        refine x_aload_n (pc := 80) dX2_coverFrom_80 rfl ?_
        refine x_gf (pc := 81) dX2_coverFrom_81 fX2_32 (by assumption) (by omega) ?_
        refine x_y3 (pc := 84) dX2_coverFrom_84 wX2_lead iX2_lead kX2_84 (by decide) rfl (Nat.le_of_ble_eq_true rfl) (by assumption) (by omega) (t_lead (d := d) hf hz hP ha hw hs hn (by omega) (b1 := bw) (bx := bx) (by unfold in3; omega) n2 (by unfold in3; omega) L P RC RX RW) (fun v84 h84 e84 => ?_)
        obtain ⟨rfl, P1, RC1, ⟨cw1, RW1⟩, g84⟩ := e84
        have hob1 := P1.1.ob
        refine x_pfo (pc := 87) dX2_coverFrom_87 pX2_32 hob1 (by omega) (fun hp87 hf87 => ?_)
        have P2 := P1.pw hf87
        obtain ⟨F0, F1, F2, F3, F4, F5, F6⟩ := id P2
        have hob2 := F0.ob
        have L1 := (L.keep (fun x h1 h2 => g84 x (by omega) (by omega) (by omega))).keep (fun x h1 h2 => hf87.1 x (by omega))
        have RN1 := (RN.keep (fun x h1 h2 => g84 x (by omega) (by omega) (by omega))).keep (fun x h1 h2 => hf87.1 x (by omega))
        have RWo := (RW.X.keep (fun x h1 h2 => g84 x (by omega) (by omega) (by omega))).keep (fun x h1 h2 => hf87.1 x (by omega))
        have RW1b := RW1.keep (fun x h1 h2 => hf87.1 x (by omega))
        have CA1b := (CA.keep (fun x h1 h2 => g84 x (by omega) (by omega) (by omega))).keep (fun x h1 h2 => hf87.1 x (by omega))
        refine x_aload_n (pc := 90) dX2_coverFrom_90 rfl ?_
        refine x_aload_n (pc := 91) dX2_coverFrom_91 rfl ?_
        refine x_aload_n (pc := 92) dX2_coverFrom_92 rfl ?_
        refine x_iload (pc := 93) dX2_coverFrom_93 rfl ?_
        refine x_aload_n (pc := 95) dX2_coverFrom_95 rfl ?_
        refine x_gf (pc := 96) dX2_coverFrom_96 fX2_35 (by assumption) (by omega) ?_
        refine x_y3 (pc := 99) dX2_coverFrom_99 wX2_lead iX2_lead kX2_84 (by decide) rfl (Nat.le_of_ble_eq_true rfl) hob2 (by omega) (t_lead (d := d) hf hz hP ha hw hs hn (by omega) (b1 := bn) (bx := bw) (by unfold in3; omega) (by omega) (by unfold in3; omega) L1 P2 (RC1.keep (fun x h1 h2 => hf87.1 x (by omega))) RWo RN1) (fun v99 h99 e99 => ?_)
        obtain ⟨rfl, P3, RC2a, ⟨cn2, RN2⟩, g99⟩ := e99
        have hob3 := P3.1.ob
        refine x_pfo (pc := 102) dX2_coverFrom_102 pX2_35 hob3 (by omega) (fun hp102 hf102 => ?_)
        have P4 := P3.pn hf102
        obtain ⟨F0, F1, F2, F3, F4, F5, F6⟩ := id P4
        have hob4 := F0.ob
        have L2 := (L1.keep (fun x h1 h2 => g99 x (by omega) (by omega) (by omega))).keep (fun x h1 h2 => hf102.1 x (by omega))
        have RC2 := RC2a
        have RW2 := RW1b.keep (fun x h1 h2 => g99 x (by omega) (by omega) (by omega))
        have RX2 := (RN1.keep (fun x h1 h2 => g99 x (by omega) (by omega) (by omega))).X
        have CA2b := (CA1b.keep (fun x h1 h2 => g99 x (by omega) (by omega) (by omega))).keep (fun x h1 h2 => hf102.1 x (by omega))
        have cw2e : cw1 = cw1 := rfl
        have fw := (RW2.keep (fun x h1 h2 => hf102.1 x (by omega))).flds
        have fn := (RN2.keep (fun x h1 h2 => hf102.1 x (by omega))).flds
        obtain ⟨cw2, hcw2⟩ : ∃ c, c = cw1 := ⟨_, rfl⟩
        subst hcw2
        have ecw2 := (RW2.cgV (led_W hf hP hw hs hn hB hN (by omega) hiq)).cnt hf hP ((hB.2.2.2.1 (q + 1) (by omega)).cgA (fun r _ z => by unfold Cw at z; simp only [Bool.and_eq_true, decide_eq_true_eq] at z; exact z.1))
        have ecn2 := (RN2.cgV (led_N hf hP hw hs hn hB hN (by omega) hiq)).cnt hf hP ((hB.2.2.2.1 (q + 1) (by omega)).cgA (fun r _ z => by unfold Cn at z; simp only [Bool.and_eq_true, decide_eq_true_eq] at z; exact z.1))
        obtain ⟨⟨gk2, CB1, CB2⟩, CB3⟩ := id CA2b
        have hrow2 := CB3 (i0 + 1) (by omega)
        rw [show 37 + 1 + (i0 + 1) = 39 + i0 by omega] at hrow2
        refine x_aload (pc := 105) dX2_coverFrom_105 rfl ?_
        refine x_iload (pc := 107) dX2_coverFrom_107 rfl ?_
        refine x_iconst (pc := 109) dX2_coverFrom_109 ?_
        refine x_iadd (pc := 110) dX2_coverFrom_110 ?_
        refine x_aload_n (pc := 111) dX2_coverFrom_111 rfl ?_
        refine x_gf (pc := 112) dX2_coverFrom_112 fX2_32 (by assumption) (by omega) ?_
        refine x_gn (pc := 115) dX2_coverFrom_115 fX2_81 (by assumption) (by omega) ?_
        refine x_aload_n (pc := 118) dX2_coverFrom_118 rfl ?_
        refine x_gf (pc := 119) dX2_coverFrom_119 fX2_35 (by assumption) (by omega) ?_
        refine x_gn (pc := 122) dX2_coverFrom_122 fX2_81 (by assumption) (by omega) ?_
        refine x_isub (pc := 125) dX2_coverFrom_125 ?_
        refine x_is (pc := 126) (j := q + 2) dX2_coverFrom_126 (by assumption) (by omega) (by omega) (by omega) ?_
        have CA4 := CA2b.put (i := i0 + 1) (g := up (Kc (i0 + 1)) (q + 2) ((cw2 : Int) - cn2)) (by omega)
        rw [show 38 + (i0 + 1) = 39 + i0 by omega] at CA4
        refine x_iinc (pc := 127) dX2_coverFrom_127 rfl (by decide) rfl ?_
        show Ex _ _ _ _ _ _ [_, _, _, _, _, _] _ _ _ _
        refine x_goto (pc := 130) (tgt := 59) dX2_coverFrom_130 (by decide) ?_
        exact ih (by omega) _ _ bx bw bn cw2 cn2 (L2.keep (fun x h1 h2 => up_n _ _ (by omega))) (P4.keep (up_n _ _ (by omega))) CA4 (RC2.keep (fun x h1 h2 => (up_n _ _ (by omega)).trans (hf102.1 x (by omega)))) (((RW2.keep (fun x h1 h2 => (up_n _ _ (by omega)).trans (hf102.1 x (by omega))))).cgV (led_W hf hP hw hs hn hB hN (by omega) hiq)) ((RN2.keep (fun x h1 h2 => (up_n _ _ (by omega)).trans (hf102.1 x (by omega)))).cgV (led_N hf hP hw hs hn hB hN (by omega) hiq)) (RX2.keep (fun x h1 h2 => (up_n _ _ (by omega)).trans (hf102.1 x (by omega)))) i3 i1 i2 (by omega) (by omega) (by omega) (fun j hj => by
          rw [up_s]
          by_cases e : j = q + 2
          · subst e
            rw [up_s, if_pos ⟨by omega, by omega⟩, show q + 2 - 1 = q + 1 by omega, ecw2, ecn2]
            have := cnt_wn (Lf := Lw w) (st := st) (en := en) (show i0 ≤ q + 1 by omega) R
            omega
          · rw [up_n _ _ e, hK j hj]
            by_cases e1 : i0 + 1 ≤ j ∧ j ≤ q + 1
            · rw [if_pos e1, if_pos (by omega)]
            · rw [if_neg e1, if_neg (by omega)]) (fun h K1 f1 p1 e0 e1 => hq h K1 (fun x hx => (f1 x hx).trans ((up_n _ _ (by omega)).trans ((hf102.1 x (by omega)).trans ((g99 x (by omega) (by omega) (by omega)).trans ((hf87.1 x (by omega)).trans (g84 x (by omega) (by omega) (by omega))))))) p1 (fun i hi => (e0 i hi).trans (up_n _ _ hi)) e1)

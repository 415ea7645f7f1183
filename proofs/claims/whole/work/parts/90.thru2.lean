def TX (h : HP) (p N : Nat) (W : Nat → Nat) (S T : Nat → Int) : Prop := ∃ M ld m w g σ F Qs, TS h p N W S T M ld m w g σ F Qs
theorem TX.C {h : HP} {p N : Nat} {W : Nat → Nat} {S T : Nat → Int} (t : TX h p N W S T) : ModA h p N := by
  obtain ⟨M, ld, m, w, g, σ, F, Qs, t⟩ := t
  exact t.1
theorem TX.D {h : HP} {p N : Nat} {W : Nat → Nat} {S T : Nat → Int} (t : TX h p N W S T) : MdS h W S T := by
  obtain ⟨M, ld, m, w, g, σ, F, Qs, t⟩ := t
  exact t.2.1

set_option maxRecDepth 4000 in
theorem m_through {K : Type} [Lean.Grind.CommRing K] {f : Int → K} {G : GL} {d : Nat} {sz p N : Nat} (hf : Iot p f) (hz : 615 ≤ sz) (hN : 1 ≤ N ∧ N ≤ 8) (hP : isP p) {W : Nat → Nat} {S T : Nat → Int} (hT : inTm T p) {l : Nat} (hl : l < 8) {s : Nat → Nat} (hs : sz8 S l s) {R : Nat} {st en : Nat → Nat} {x : Nat → Nat → Nat → K} (hB : Bar N 4 s (Lw (W l)) (TK f T (Lw (W l)) s l) R st en x) {a b : Nat} (hab : a ≤ b) (hb : b < N) {hp : HP} (tx : TX hp p N W S T) : Ct G (d + 3) 0 0 mX7_through [vr 92, vi l, vi a, vi b] hp sz (Vs (fun v h => v = vi (cov R st en a b : Nat) ∧ TX h p N W S T ∧ Ft hp h) sz) := by
  show Ex _ _ _ _ _ _ [vr 92, vi l, vi a, vi b, vu, vu, vu, vu, vu, vu, vu, vu] _ _ _ _
  have hpl := hP.le
  have hw8 := frs_le (s := s) (a := a) (fun k hk => (hs k hk).2) (b + 1) (by omega)
  have hw9 := frs_mono (s := s) (a := a) a (b + 1) (Nat.le_refl _) (by omega)
  obtain ⟨M, ld, m, w, g, σ, F, Qs, t⟩ := tx
  obtain ⟨C, D, Mo, FA, ⟨gq, SA, SB⟩, SC⟩ := id t
  obtain ⟨C0, C1, C2, C3, C4, C5, C6, C7, C8, C11, C12, C13, C14, C15, C16, C17, C18, C19, C20, C21, C22, C23⟩ := id C
  have hob := C0.ob
  obtain ⟨D1, D2, D3, D4⟩ := id D
  obtain ⟨O1, O2, O3, O4, O5, O6⟩ := id Mo
  refine x_iload_n (pc := 0) dX7_through_0 rfl ?_
  refine x_if_lt (pc := 1) (tgt := 12) dX7_through_1 (by decide) (by omega) (fun c1 => ?_) (fun c1 => ?_)
  · exact absurd c1 (by omega)
  · refine x_iload_n (pc := 4) dX7_through_4 rfl ?_
    refine x_aload_n (pc := 5) dX7_through_5 rfl ?_
    refine x_gf (pc := 6) dX7_through_6 fX7_93 (by assumption) (by omega) ?_
    refine x_icmp_lt (pc := 9) (tgt := 14) dX7_through_9 (by decide) (by omega) (by omega) (fun c9 => ?_) (fun c9 => ?_)
    · refine x_aload_n (pc := 14) dX7_through_14 rfl ?_
      refine x_iload_n (pc := 15) dX7_through_15 rfl ?_
      refine x_iload_n (pc := 16) dX7_through_16 rfl ?_
      refine x_iload_n (pc := 17) dX7_through_17 rfl ?_
      refine x_y3 (pc := 18) dX7_through_18 wX7_same iX7_same kX7_178 (by decide) rfl (Nat.le_of_ble_eq_true rfl) (by assumption) (by omega) (m_same (d := d) hf hz hN hP hl hs hab hb hT t) (fun v18 h18 e18 => ?_)
      obtain ⟨n, M0, ld0, m0, g0, σ0, F0, Q0, rfl, tS, fS, hn, hF0, hQr, sK1, sK2⟩ := e18
      obtain ⟨C, D, Mo, FA, ⟨gq, SA, SB⟩, SC⟩ := id tS
      obtain ⟨C0, C1, C2, C3, C4, C5, C6, C7, C8, C11, C12, C13, C14, C15, C16, C17, C18, C19, C20, C21, C22, C23⟩ := id C
      have hob := C0.ob
      refine x_istore (pc := 21) dX7_through_21 (by decide) rfl ?_
      show Ex _ _ _ _ _ _ [_, _, _, _, _, _, _, _, _, _, _, _] _ _ _ _
      refine x_aload_n (pc := 23) dX7_through_23 rfl ?_
      refine x_gf (pc := 24) dX7_through_24 fX7_36 (by assumption) (by omega) ?_
      refine x_iload_n (pc := 27) dX7_through_27 rfl ?_
      refine x_iconst (pc := 28) dX7_through_28 ?_
      refine x_iadd (pc := 29) dX7_through_29 ?_
      refine x_il (pc := 30) (j := b + 1) dX7_through_30 (by assumption) (by omega) (by omega) (by omega) ?_
      rw [hF0 (b + 1) (by omega) (by omega)]
      refine x_istore (pc := 31) dX7_through_31 (by decide) rfl ?_
      show Ex _ _ _ _ _ _ [_, _, _, _, _, _, _, _, _, _, _, _] _ _ _ _
      refine x_aload_n (pc := 33) dX7_through_33 rfl ?_
      refine x_iload (pc := 34) dX7_through_34 rfl ?_
      refine x_p1 (pc := 36) dX7_through_36 wX7_begin iX7_begin kX7_155 (by decide) rfl (Nat.le_of_ble_eq_true rfl) (by assumption) (by omega) (m_begin C hz hN ⟨g0, σ0, Mo⟩ (n := frs s a (b + 1))) (fun h36 e36 => ?_)
      obtain ⟨CB, fB, gB, σB, moB⟩ := e36
      have tB := tS.of CB moB fB
      refine x_iload_n (pc := 39) dX7_through_39 rfl ?_
      refine x_istore (pc := 40) dX7_through_40 (by decide) rfl ?_
      show Ex _ _ _ _ _ _ [_, _, _, _, _, _, _, _, _, _, _, _] _ _ _ _
      refine k_thr2 (d := d + 1) (w := frs s a (b + 1)) hz hN hP hl hs hab hb hT hF0 rfl a hab (Nat.le_refl _) h36 M0 0 gB σB _ _ _ _ _ tB (by omega) ⟨fun j hj => absurd hj (Nat.not_lt_zero _), fun k i q => by unfold dnT at q; omega⟩ (fun i j hi => absurd hi (Nat.not_lt_zero _)) (fun h1 M1 m1 g1 σ1 v7 v8 v9 v10 v11 t1 f1 hm1 rb1 hM1 => ?_)
      obtain ⟨C, D, Mo, FA, ⟨gq, SA, SB⟩, SC⟩ := id t1
      have hob1 := C.1.ob
      refine x_aload_n (pc := 167) dX7_through_167 rfl ?_
      refine x_y0 (pc := 168) dX7_through_168 wX7_reduce iX7_reduce kX7_162 (by decide) rfl (Nat.le_of_ble_eq_true rfl) hob1 (by omega) (m_reduceK hf C hz hN hP ⟨g1, σ1, Mo⟩ (by omega) (by omega) hM1) (fun v168 h168 e168 => ?_)
      obtain ⟨C2, f168, M2, ld2, k1, rfl, ⟨g2, σ2, mo2⟩, q2, k2, k3, rk2, ls2, in2, sp2⟩ := e168
      have t2 := t1.of C2 mo2 f168
      refine x_istore (pc := 171) dX7_through_171 (by decide) rfl ?_
      show Ex _ _ _ _ _ _ [_, _, _, _, _, _, _, _, _, _, _, _] _ _ _ _
      refine x_iconst (pc := 173) dX7_through_173 ?_
      refine x_istore (pc := 174) dX7_through_174 (by decide) rfl ?_
      show Ex _ _ _ _ _ _ [_, _, _, _, _, _, _, _, _, _, _, _] _ _ _ _
      refine k_thr5 (d := d + 1) hz hN hP hl hs hab hb hn (by omega) (by omega) (m := k1) (by omega) 0 (by omega) h168 M2 g2 σ2 _ _ t2 (fun h5 M5 g5 σ5 v8 v9 t5 f5 e5 e6 => ?_)
      have hM5 : inQ (k1 + n) (frs s a (b + 1)) M5 p := fun i j hi hj => by
        by_cases l : i < k1
        · rw [e5 i (by omega)]; exact q2 i j l hj
        · rw [show i = k1 + (i - k1) by omega, e6 (i - k1) (by omega) (by omega) j hj]
          by_cases e : j < s a
          · rw [if_pos e]; exact hQr _ j (by omega) e
          · rw [if_neg e]; omega
      obtain ⟨C, D, Mo, FA, ⟨gq, SA, SB⟩, SC⟩ := id t5
      have hob5 := C.1.ob
      refine x_aload_n (pc := 230) dX7_through_230 rfl ?_
      refine x_y0 (pc := 231) dX7_through_231 wX7_reduce iX7_reduce kX7_162 (by decide) rfl (Nat.le_of_ble_eq_true rfl) hob5 (by omega) (m_reduceK hf C hz hN hP ⟨g5, σ5, Mo⟩ (by omega) (by omega) hM5) (fun v231 h231 e231 => ?_)
      obtain ⟨C6, f231, M6, ld6, k6, rfl, ⟨g6, σ6, mo6⟩, q6, k62, k63, rk6, ls6, in6, sp6⟩ := e231
      refine x_iload (pc := 234) dX7_through_234 rfl ?_
      refine x_isub (pc := 236) dX7_through_236 ?_
      refine x_iret (pc := 237) dX7_through_237 rfl (by
        have key := thr_K hf hP hab hb (fun k hk => (hs k (by omega)).2) hB rb1 rk2 sp2 sK1 sK2 (fun x hx => e5 x (by omega)) (fun j hj c hc => e6 j (by omega) hj c hc) rk6 sp6
        refine ⟨_, rfl, rfl, ?_, ⟨M6, ld6, k6, _, g6, σ6, F0, Q0, t5.of C6 mo6 f231⟩, ((((fS.tr fB.t).tr f1).tr f168.t).tr f5).tr f231.t⟩
        rw [key]
        congr 1
        omega)
    · exact absurd c9 (by omega)

theorem m_through0 {G : GL} {d sz p N : Nat} (hz : 615 ≤ sz) (hN : 1 ≤ N ∧ N ≤ 8) {W : Nat → Nat} {S T : Nat → Int} {l : Nat} {a b : Int} (ha : -1 ≤ a ∧ a < 9) (hb : 0 ≤ b ∧ b ≤ 8) (h : a < 0 ∨ (N : Int) ≤ b) {hp : HP} (tx : TX hp p N W S T) : Ct G (d + 3) 0 0 mX7_through [vr 92, vi l, vi a, vi b] hp sz (Vs (fun v h => v = vi 0 ∧ TX h p N W S T ∧ Ft hp h) sz) := by
  show Ex _ _ _ _ _ _ [vr 92, vi l, vi a, vi b, vu, vu, vu, vu, vu, vu, vu, vu] _ _ _ _
  have C := tx.C
  obtain ⟨C0, C1, C2, C3, C4, C5, C6, C7, C8, C11, C12, C13, C14, C15, C16, C17, C18, C19, C20, C21, C22, C23⟩ := id C
  have hob := C0.ob
  refine x_iload_n (pc := 0) dX7_through_0 rfl ?_
  refine x_if_lt (pc := 1) (tgt := 12) dX7_through_1 (by decide) (by omega) (fun c1 => ?_) (fun c1 => ?_)
  · refine x_iconst (pc := 12) dX7_through_12 ?_
    refine x_iret (pc := 13) dX7_through_13 rfl ⟨_, rfl, rfl, rfl, tx, Ft.rf⟩
  · refine x_iload_n (pc := 4) dX7_through_4 rfl ?_
    refine x_aload_n (pc := 5) dX7_through_5 rfl ?_
    refine x_gf (pc := 6) dX7_through_6 fX7_93 (by assumption) (by omega) ?_
    refine x_icmp_lt (pc := 9) (tgt := 14) dX7_through_9 (by decide) (by omega) (by omega) (fun c9 => ?_) (fun c9 => ?_)
    · exact absurd c9 (by omega)
    · refine x_iconst (pc := 12) dX7_through_12 ?_
      refine x_iret (pc := 13) dX7_through_13 rfl ⟨_, rfl, rfl, rfl, tx, Ft.rf⟩

def cv9 (N R : Nat) (st en : Nat → Nat) (a b : Int) : Int := if a < 0 ∨ (N : Int) ≤ b then 0 else cov R st en a.toNat b.toNat
theorem m_thr {K : Type} [Lean.Grind.CommRing K] {f : Int → K} {G : GL} {d : Nat} {sz p N : Nat} (hf : Iot p f) (hz : 615 ≤ sz) (hN : 1 ≤ N ∧ N ≤ 8) (hP : isP p) {W : Nat → Nat} {S T : Nat → Int} (hT : inTm T p) {l : Nat} (hl : l < 8) {s : Nat → Nat} (hs : sz8 S l s) {R : Nat} {st en : Nat → Nat} {x : Nat → Nat → Nat → K} (hB : Bar N 4 s (Lw (W l)) (TK f T (Lw (W l)) s l) R st en x) {a b : Int} (ha : -1 ≤ a) (hab : a ≤ b) (hb : 0 ≤ b ∧ b ≤ N) {hp : HP} (tx : TX hp p N W S T) : Ct G (d + 3) 0 0 mX7_through [vr 92, vi l, vi a, vi b] hp sz (Vs (fun v h => v = vi (cv9 N R st en a b) ∧ TX h p N W S T ∧ Ft hp h) sz) := by
  unfold cv9
  by_cases h : a < 0 ∨ (N : Int) ≤ b
  · rw [if_pos h]
    exact m_through0 hz hN ⟨by omega, by omega⟩ ⟨by omega, by omega⟩ h tx
  · rw [if_neg h]
    obtain ⟨a, rfl⟩ : ∃ a' : Nat, a = (a' : Int) := ⟨a.toNat, by omega⟩
    obtain ⟨b, rfl⟩ : ∃ b' : Nat, b = (b' : Int) := ⟨b.toNat, by omega⟩
    simp only [Int.toNat_natCast]
    exact m_through hf hz hN hP hT hl hs hB (by omega) (by omega) tx
theorem mul_cv {N R : Nat} {st en : Nat → Nat} (hen : ∀ r, r < R → en r < N) {a b : Nat} (hab : a ≤ b) (hb : b < N) : cv9 N R st en a b - cv9 N R st en ((a : Int) - 1) b - cv9 N R st en a ((b : Int) + 1) + cv9 N R st en ((a : Int) - 1) ((b : Int) + 1) = (mul R st en a b : Nat) := by
  have hc : ∀ a', cv9 N R st en (a' : Nat) ((b : Int) + 1) = (cov R st en a' (b + 1) : Nat) := fun a' => by
    unfold cv9
    by_cases e : b + 1 = N
    · rw [if_pos (by omega), e, cov_top hen]; rfl
    · rw [if_neg (by omega)]
      simp only [Int.toNat_natCast]
      rw [show ((b : Int) + 1).toNat = b + 1 by omega]
  have hd : ∀ a', cv9 N R st en (a' : Nat) (b : Nat) = (cov R st en a' b : Nat) := fun a' => by
    unfold cv9
    rw [if_neg (by omega)]
    simp only [Int.toNat_natCast]
  cases a with
  | zero =>
    rw [hc, hd, mul_0]
    unfold cv9
    rw [if_pos (by omega), if_pos (by omega)]
    omega
  | succ a =>
    rw [show (((a + 1 : Nat) : Nat) : Int) - 1 = (a : Nat) by omega, hc, hc, hd, hd, mul_s]

set_option maxRecDepth 4000 in
theorem m_times {K : Type} [Lean.Grind.CommRing K] {f : Int → K} {G : GL} {d : Nat} {sz p N : Nat} (hf : Iot p f) (hz : 615 ≤ sz) (hN : 1 ≤ N ∧ N ≤ 8) (hP : isP p) {W : Nat → Nat} {S T : Nat → Int} (hT : inTm T p) {l : Nat} (hl : l < 8) {s : Nat → Nat} (hs : sz8 S l s) {R : Nat} {st en : Nat → Nat} {x : Nat → Nat → Nat → K} (hB : Bar N 4 s (Lw (W l)) (TK f T (Lw (W l)) s l) R st en x) {a b : Nat} (hab : a ≤ b) (hb : b < N) {hp : HP} (tx : TX hp p N W S T) : Ct G (d + 4) 0 0 mX7_times [vr 92, vi l, vi a, vi b] hp sz (Vs (fun v h => v = vi (mul R st en a b : Nat) ∧ TX h p N W S T ∧ Ft hp h) sz) := by
  show Ex _ _ _ _ _ _ [vr 92, vi l, vi a, vi b] _ _ _ _
  have hob := tx.C.1.ob
  refine x_aload_n (pc := 0) dX7_times_0 rfl ?_
  refine x_iload_n (pc := 1) dX7_times_1 rfl ?_
  refine x_iload_n (pc := 2) dX7_times_2 rfl ?_
  refine x_iload_n (pc := 3) dX7_times_3 rfl ?_
  refine x_y3 (pc := 4) dX7_times_4 wX7_through iX7_through kX7_181 (by decide) rfl (Nat.le_of_ble_eq_true rfl) (by assumption) (by omega) (m_thr (d := d) hf hz hN hP hT hl hs hB (a := (a : Int)) (b := (b : Int)) (by omega) (by omega) (by omega) tx) (fun v4 h4 e4 => ?_)
  obtain ⟨rfl, tx1, f1⟩ := e4
  have hob1 := tx1.C.1.ob
  refine x_aload_n (pc := 7) dX7_times_7 rfl ?_
  refine x_iload_n (pc := 8) dX7_times_8 rfl ?_
  refine x_iload_n (pc := 9) dX7_times_9 rfl ?_
  refine x_iconst (pc := 10) dX7_times_10 ?_
  refine x_isub (pc := 11) dX7_times_11 ?_
  refine x_iload_n (pc := 12) dX7_times_12 rfl ?_
  refine x_y3 (pc := 13) dX7_times_13 wX7_through iX7_through kX7_181 (by decide) rfl (Nat.le_of_ble_eq_true rfl) hob1 (by omega) (m_thr (d := d) hf hz hN hP hT hl hs hB (a := (a : Int) - 1) (b := (b : Int)) (by omega) (by omega) (by omega) tx1) (fun v13 h13 e13 => ?_)
  obtain ⟨rfl, tx2, f2⟩ := e13
  have hob2 := tx2.C.1.ob
  refine x_isub (pc := 16) dX7_times_16 ?_
  refine x_aload_n (pc := 17) dX7_times_17 rfl ?_
  refine x_iload_n (pc := 18) dX7_times_18 rfl ?_
  refine x_iload_n (pc := 19) dX7_times_19 rfl ?_
  refine x_iload_n (pc := 20) dX7_times_20 rfl ?_
  refine x_iconst (pc := 21) dX7_times_21 ?_
  refine x_iadd (pc := 22) dX7_times_22 ?_
  refine x_y3 (pc := 23) dX7_times_23 wX7_through iX7_through kX7_181 (by decide) rfl (Nat.le_of_ble_eq_true rfl) hob2 (by omega) (m_thr (d := d) hf hz hN hP hT hl hs hB (a := (a : Int)) (b := (b : Int) + 1) (by omega) (by omega) (by omega) tx2) (fun v23 h23 e23 => ?_)
  obtain ⟨rfl, tx3, f3⟩ := e23
  have hob3 := tx3.C.1.ob
  refine x_isub (pc := 26) dX7_times_26 ?_
  refine x_aload_n (pc := 27) dX7_times_27 rfl ?_
  refine x_iload_n (pc := 28) dX7_times_28 rfl ?_
  refine x_iload_n (pc := 29) dX7_times_29 rfl ?_
  refine x_iconst (pc := 30) dX7_times_30 ?_
  refine x_isub (pc := 31) dX7_times_31 ?_
  refine x_iload_n (pc := 32) dX7_times_32 rfl ?_
  refine x_iconst (pc := 33) dX7_times_33 ?_
  refine x_iadd (pc := 34) dX7_times_34 ?_
  refine x_y3 (pc := 35) dX7_times_35 wX7_through iX7_through kX7_181 (by decide) rfl (Nat.le_of_ble_eq_true rfl) hob3 (by omega) (m_thr (d := d) hf hz hN hP hT hl hs hB (a := (a : Int) - 1) (b := (b : Int) + 1) (by omega) (by omega) (by omega) tx3) (fun v35 h35 e35 => ?_)
  obtain ⟨rfl, tx4, f4⟩ := e35
  refine x_iadd (pc := 38) dX7_times_38 ?_
  refine x_iret (pc := 39) dX7_times_39 rfl (by rw [mul_cv (fun r hr => (hB.1 r hr).2) hab hb]; exact ⟨_, rfl, rfl, rfl, tx4, ((f1.tr f2).tr f3).tr f4⟩)

theorem k_mfar {G : GL} {d : Nat} {sz p N : Nat} (hz : 615 ≤ sz) (hN : 1 ≤ N ∧ N ≤ 8) {Bg En Cn : Nat → Int} {c1 c2 : Nat} (hc1 : c1 ≤ 32) (hc2 : c2 ≤ 32) (rr1 : rg8 (ub Bg 0) (ub En 0) c1) (rr2 : rg8 (ub Bg 1) (ub En 1) c2) (hn1 : Cn 0 = (c1 : Int)) (hn2 : Cn 1 = (c2 : Int)) {a b : Nat} {hp0 : HP} {Q : Option AV → HP → Nat → Prop} (hq : ∀ h pr td (r : Nat), KrA h p N Bg En Cn pr td → (∀ k, td k = 0 ∨ td k = 1) → Fr hp0 h 401 402 → (r ≤ N ∧ (∀ q, q < r → ¬ (CPu (ub Bg 0) (ub En 0) c1 (ub Bg 1) (ub En 1) c2 q ∧ CPu (ub Bg 1) (ub En 1) c2 (ub Bg 0) (ub En 0) c1 q)) ∧ (r < N → (CPu (ub Bg 0) (ub En 0) c1 (ub Bg 1) (ub En 1) c2 r ∧ CPu (ub Bg 1) (ub En 1) c2 (ub Bg 0) (ub En 0) c1 r))) → Q (some (vi r)) h sz) : ∀ k, k ≤ N → ∀ hp pr td, KrA hp p N Bg En Cn pr td → (∀ k, td k = 0 ∨ td k = 1) → Fr hp0 hp 401 402 → (∀ q, q < k → ¬ (CPu (ub Bg 0) (ub En 0) c1 (ub Bg 1) (ub En 1) c2 q ∧ CPu (ub Bg 1) (ub En 1) c2 (ub Bg 0) (ub En 0) c1 q)) → Ex G (d + 36) 0 0 mX7_far 48 [vr 92, vi a, vi b, vi k] [] hp sz Q := by
  refine down (fun hp pr td ka h01 ff hno => ?_) (fun k hk ih hp pr td ka h01 ff hno => ?_)
  · obtain ⟨C, ⟨LB, LE, LC⟩, LP, LT⟩ := id ka
    obtain ⟨C0, C1, C2, C3, C4, C5, C6, C7, C8, C11, C12, C13, C14, C15, C16, C17, C18, C19, C20, C21, C22, C23⟩ := id C
    have hob := C0.ob
    refine x_iload_n (pc := 48) dX7_far_48 rfl ?_
    refine x_aload_n (pc := 49) dX7_far_49 rfl ?_
    refine x_gf (pc := 50) dX7_far_50 fX7_93 (by assumption) (by omega) ?_
    refine x_icmp_ge (pc := 53) (tgt := 80) dX7_far_53 (by decide) (by omega) (by omega) (fun c53 => ?_) (fun c53 => ?_)
    · refine x_iload_n (pc := 80) dX7_far_80 rfl ?_
      refine x_iret (pc := 81) dX7_far_81 rfl (hq hp pr td N ka h01 ff ⟨Nat.le_refl _, hno, fun q => absurd q (Nat.lt_irrefl _)⟩)
    · exact absurd c53 (by omega)
  · obtain ⟨C, ⟨LB, LE, LC⟩, LP, LT⟩ := id ka
    obtain ⟨C0, C1, C2, C3, C4, C5, C6, C7, C8, C11, C12, C13, C14, C15, C16, C17, C18, C19, C20, C21, C22, C23⟩ := id C
    have hob := C0.ob
    refine x_iload_n (pc := 48) dX7_far_48 rfl ?_
    refine x_aload_n (pc := 49) dX7_far_49 rfl ?_
    refine x_gf (pc := 50) dX7_far_50 fX7_93 (by assumption) (by omega) ?_
    refine x_icmp_ge (pc := 53) (tgt := 80) dX7_far_53 (by decide) (by omega) (by omega) (fun c53 => ?_) (fun c53 => ?_)
    · exact absurd c53 (by omega)
    · refine x_aload_n (pc := 56) dX7_far_56 rfl ?_
      refine x_iconst (pc := 57) dX7_far_57 ?_
      refine x_iload_n (pc := 58) dX7_far_58 rfl ?_
      refine x_y2 (pc := 59) dX7_far_59 wX7_isCovered iX7_isCovered kX7_199 (by decide) rfl (Nat.le_of_ble_eq_true rfl) (by assumption) (by omega) (m_isCovered (d := d) hz (sd := 0) (by omega) hc1 hc2 rr1 rr2 hn1 hn2 (most := k) (by omega) ka h01) (fun v59 h59 e59 => ?_)
      obtain ⟨f59, r1, pr1, td1, rfl, hr1, g11, g21, z1⟩ := e59
      have ka1 := ka.of f59 g11 g21
      have ff1 := ff.tr f59
      have hob1 := ka1.1.1.ob
      refine x_if_eq (pc := 62) (tgt := 74) dX7_far_62 (by decide) (bz_rg _) (fun c62 => ?_) (fun c62 => ?_)
      · have hA : ¬ CPu (ub Bg 0) (ub En 0) c1 (ub Bg 1) (ub En 1) c2 k := fun q => by rw [hr1.mpr q] at c62; exact absurd c62 (by decide)
        refine x_iinc (pc := 74) dX7_far_74 rfl (by decide) rfl ?_
        show Ex _ _ _ _ _ _ [_, _, _, _] _ _ _ _
        refine x_goto (pc := 77) (tgt := 48) dX7_far_77 (by decide) ?_
        first
          | exact ih _ _ _ ka2 z2 ff2 (fun q hq9 => by
              by_cases e : q = k
              · subst e; exact fun z => hB z.2
              · exact hno q (by omega))
          | exact ih _ _ _ ka1 z1 ff1 (fun q hq9 => by
              by_cases e : q = k
              · subst e; exact fun z => hA z.1
              · exact hno q (by omega))
      · have hA : CPu (ub Bg 0) (ub En 0) c1 (ub Bg 1) (ub En 1) c2 k := hr1.mp (by cases r1; exact absurd rfl c62; rfl)
        refine x_aload_n (pc := 65) dX7_far_65 rfl ?_
        refine x_iconst (pc := 66) dX7_far_66 ?_
        refine x_iload_n (pc := 67) dX7_far_67 rfl ?_
        refine x_y2 (pc := 68) dX7_far_68 wX7_isCovered iX7_isCovered kX7_199 (by decide) rfl (Nat.le_of_ble_eq_true rfl) hob1 (by omega) (m_isCovered (d := d) hz (sd := 1) (by omega) hc2 hc1 rr2 rr1 hn2 hn1 (most := k) (by omega) ka1 z1) (fun v68 h68 e68 => ?_)
        obtain ⟨f68, r2, pr2, td2, rfl, hr2, g12, g22, z2⟩ := e68
        have ka2 := ka1.of f68 g12 g22
        have ff2 := ff1.tr f68
        have hob2 := ka2.1.1.ob
        refine x_if_ne (pc := 71) (tgt := 80) dX7_far_71 (by decide) (bz_rg _) (fun c71 => ?_) (fun c71 => ?_)
        · have hB : CPu (ub Bg 1) (ub En 1) c2 (ub Bg 0) (ub En 0) c1 k := hr2.mp (by cases r2; exact absurd rfl c71; rfl)
          refine x_iload_n (pc := 80) dX7_far_80 rfl ?_
          refine x_iret (pc := 81) dX7_far_81 rfl (hq _ pr2 td2 k ka2 z2 ff2 ⟨by omega, hno, fun _ => ⟨hA, hB⟩⟩)
        · have hB : ¬ CPu (ub Bg 1) (ub En 1) c2 (ub Bg 0) (ub En 0) c1 k := fun q => by rw [hr2.mpr q] at c71; exact absurd c71 (by decide)
          refine x_iinc (pc := 74) dX7_far_74 rfl (by decide) rfl ?_
          show Ex _ _ _ _ _ _ [_, _, _, _] _ _ _ _
          refine x_goto (pc := 77) (tgt := 48) dX7_far_77 (by decide) ?_
          first
            | exact ih _ _ _ ka2 z2 ff2 (fun q hq9 => by
                by_cases e : q = k
                · subst e; exact fun z => hB z.2
                · exact hno q (by omega))
            | exact ih _ _ _ ka1 z1 ff1 (fun q hq9 => by
                by_cases e : q = k
                · subst e; exact fun z => hA z.1
                · exact hno q (by omega))

def Ff (hp h : HP) : Prop := ∀ x, x ≠ 92 → (x < 98 ∨ x = 360 ∨ x = 362 ∨ x = 396 ∨ x = 397 ∨ 402 < x) → h x = hp x
set_option maxRecDepth 4000 in
theorem m_far {K : Type} [Lean.Grind.CommRing K] {f : Int → K} {G : GL} {d : Nat} {sz p N : Nat} (hf : Iot p f) (hz : 615 ≤ sz) (hN : 1 ≤ N ∧ N ≤ 8) (hP : isP p) {W : Nat → Nat} {S T : Nat → Int} (hS : inSm S) (hT : inTm T p) {Rb : Nat → Nat} {st en : Nat → Nat → Nat} {xb : Nat → Nat → Nat → Nat → K} (hBs : ∀ l, l < 8 → Bar N 4 (szs S l) (Lw (W l)) (TK f T (Lw (W l)) (szs S l) l) (Rb l) (st l) (en l) (xb l)) {hp : HP} (tx : TX hp p N W S T) (as : ∃ Bg En Cn, LsA hp Bg En Cn) (ps : (∃ pr td, hp 401 = ar 0 32 pr ∧ hp 402 = ar 3 32 td ∧ (∀ k, td k = 0 ∨ td k = 1))) {x : Int} (hx : -2147483648 ≤ x ∧ x < 2147483648) {y : Int} (hy : -2147483648 ≤ y ∧ y < 2147483648) : Ct G (d + 36) 0 0 mX7_far [vr 92, vi x, vi y] hp sz (Vs (fun v h => (((0 ≤ x ∧ x < 8 ∧ 0 ≤ y ∧ y < 8 ∧ W x.toNat = W y.toNat ∧ W x.toNat = 0) ∧ ∃ r : Nat, v = vi r ∧ farL (rA (mul (Rb x.toNat) (st x.toNat) (en x.toNat)) N N) (rA (mul (Rb y.toNat) (st y.toNat) (en y.toNat)) N N) N r) ∨ (¬ (0 ≤ x ∧ x < 8 ∧ 0 ≤ y ∧ y < 8 ∧ W x.toNat = W y.toNat ∧ W x.toNat = 0) ∧ v = vi (-1))) ∧ TX h p N W S T ∧ Ff hp h ∧ (∃ Bg En Cn, LsA h Bg En Cn) ∧ (∃ pr td, h 401 = ar 0 32 pr ∧ h 402 = ar 3 32 td ∧ (∀ k, td k = 0 ∨ td k = 1))) sz) := by
  show Ex _ _ _ _ _ _ [vr 92, vi x, vi y, vu] _ _ _ _
  obtain ⟨Bg, En, Cn, As⟩ := as
  obtain ⟨pr, td, PA, PB, PZ1⟩ := ps
  have C := tx.C
  have D := tx.D
  obtain ⟨C0, C1, C2, C3, C4, C5, C6, C7, C8, C11, C12, C13, C14, C15, C16, C17, C18, C19, C20, C21, C22, C23⟩ := id C
  have hob := C0.ob
  obtain ⟨D1, D2, D3, D4⟩ := id D
  refine x_iload_n (pc := 0) dX7_far_0 rfl ?_
  refine x_t1 (pc := 1) dX7_far_1 wX7_isLaying sX7_isLaying kX7_104 (by decide) rfl (Nat.le_of_ble_eq_true rfl) (m_isLaying hx) ?_
  refine x_if_eq (pc := 4) (tgt := 32) dX7_far_4 (by decide) (bz_rg _) (fun c4 => ?_) (fun c4 => ?_)
  · have d1 := bz_e c4
    refine x_iconst (pc := 32) dX7_far_32 ?_
    refine x_iret (pc := 33) dX7_far_33 rfl (by first | exact ⟨_, rfl, rfl, Or.inr ⟨fun q => by omega, rfl⟩, tx, fun x _ _ => rfl, ⟨Bg, En, Cn, As⟩, ⟨pr, td, PA, PB, PZ1⟩⟩)
  · have d1 := bz_n c4
    refine x_iload_n (pc := 7) dX7_far_7 rfl ?_
    refine x_t1 (pc := 8) dX7_far_8 wX7_isLaying sX7_isLaying kX7_104 (by decide) rfl (Nat.le_of_ble_eq_true rfl) (m_isLaying hy) ?_
    refine x_if_eq (pc := 11) (tgt := 32) dX7_far_11 (by decide) (bz_rg _) (fun c11 => ?_) (fun c11 => ?_)
    · have d2 := bz_e c11
      refine x_iconst (pc := 32) dX7_far_32 ?_
      refine x_iret (pc := 33) dX7_far_33 rfl (by first | exact ⟨_, rfl, rfl, Or.inr ⟨fun q => by omega, rfl⟩, tx, fun x _ _ => rfl, ⟨Bg, En, Cn, As⟩, ⟨pr, td, PA, PB, PZ1⟩⟩)
    · have d2 := bz_n c11
      obtain ⟨a, rfl⟩ : ∃ l : Nat, x = (l : Int) := ⟨x.toNat, by omega⟩
      obtain ⟨b, rfl⟩ : ∃ l : Nat, y = (l : Int) := ⟨y.toNat, by omega⟩
      simp only [Int.toNat_natCast]
      have ha : a < 8 := by omega
      have hb : b < 8 := by omega
      have hwa := D4 a ha
      have hwb := D4 b hb
      have la : (rA (mul (Rb a) (st a) (en a)) N N).length ≤ 32 := by rw [len_bars (hBs a ha).1]; exact (hBs a ha).le32 (hf.inv hP) (hf.ne hP.le.1) hN.2 (szs_4 hS ha)
      have lb : (rA (mul (Rb b) (st b) (en b)) N N).length ≤ 32 := by rw [len_bars (hBs b hb).1]; exact (hBs b hb).le32 (hf.inv hP) (hf.ne hP.le.1) hN.2 (szs_4 hS hb)
      refine x_aload_n (pc := 14) dX7_far_14 rfl ?_
      refine x_gf (pc := 15) dX7_far_15 fX7_9 (by assumption) (by omega) ?_
      refine x_iload_n (pc := 18) dX7_far_18 rfl ?_
      refine x_il (pc := 19) dX7_far_19 (by assumption) (by omega) rfl (by omega) ?_
      refine x_if_ne (pc := 20) (tgt := 32) dX7_far_20 (by decide) (by omega) (fun c20 => ?_) (fun c20 => ?_)
      · refine x_iconst (pc := 32) dX7_far_32 ?_
        refine x_iret (pc := 33) dX7_far_33 rfl (by first | exact ⟨_, rfl, rfl, Or.inr ⟨fun q => by omega, rfl⟩, tx, fun x _ _ => rfl, ⟨Bg, En, Cn, As⟩, ⟨pr, td, PA, PB, PZ1⟩⟩)
      · refine x_aload_n (pc := 23) dX7_far_23 rfl ?_
        refine x_gf (pc := 24) dX7_far_24 fX7_9 (by assumption) (by omega) ?_
        refine x_iload_n (pc := 27) dX7_far_27 rfl ?_
        refine x_il (pc := 28) dX7_far_28 (by assumption) (by omega) rfl (by omega) ?_
        refine x_if_eq (pc := 29) (tgt := 34) dX7_far_29 (by decide) (by omega) (fun c29 => ?_) (fun c29 => ?_)
        · refine x_aload_n (pc := 34) dX7_far_34 rfl ?_
          refine x_iload_n (pc := 35) dX7_far_35 rfl ?_
          refine x_iconst (pc := 36) dX7_far_36 ?_
          refine x_p2 (pc := 37) dX7_far_37 wX7_list iX7_list kX7_196 (by decide) rfl (Nat.le_of_ble_eq_true rfl) (by assumption) (by omega) (m_list (d := d + 30) hf hz hN hP hS hT hBs (l := a) (sd := 0) ha (by omega) tx As la) (fun h37 e37 => ?_)
          obtain ⟨tx1, f37, Bg1, En1, As1, lk1, e1⟩ := e37
          have hob1 := tx1.C.1.ob
          refine x_aload_n (pc := 40) dX7_far_40 rfl ?_
          refine x_iload_n (pc := 41) dX7_far_41 rfl ?_
          refine x_iconst (pc := 42) dX7_far_42 ?_
          refine x_p2 (pc := 43) dX7_far_43 wX7_list iX7_list kX7_196 (by decide) rfl (Nat.le_of_ble_eq_true rfl) hob1 (by omega) (m_list (d := d + 30) hf hz hN hP hS hT hBs (l := b) (sd := 1) hb (by omega) tx1 As1 lb) (fun h43 e43 => ?_)
          obtain ⟨tx2, f43, Bg2, En2, As2, lk2, e2⟩ := e43
          refine x_iconst (pc := 46) dX7_far_46 ?_
          refine x_istore_n (pc := 47) dX7_far_47 (by decide) rfl ?_
          show Ex _ _ _ _ _ _ [_, _, _, _] _ _ _ _
          have hA : ∀ i, i < (rA (mul (Rb a) (st a) (en a)) N N).length → ub Bg2 0 i = fs (rA (mul (Rb a) (st a) (en a)) N N) i ∧ ub En2 0 i = sn (rA (mul (Rb a) (st a) (en a)) N N) i := fun i hi => by
            obtain ⟨q1, q2⟩ := lk1 i hi
            obtain ⟨q3, q4⟩ := e2 (32 * 0 + i) (by omega)
            exact ⟨q3.trans q1, q4.trans q2⟩
          have hB : ∀ i, i < (rA (mul (Rb b) (st b) (en b)) N N).length → ub Bg2 1 i = fs (rA (mul (Rb b) (st b) (en b)) N N) i ∧ ub En2 1 i = sn (rA (mul (Rb b) (st b) (en b)) N N) i := fun i hi => lk2 i hi
          have rA1 : rg8 (ub Bg2 0) (ub En2 0) (rA (mul (Rb a) (st a) (en a)) N N).length := fun i hi => by
            have z := hA i hi
            have z2 := (rA_rg (R := Rb a) (st := st a) (en := en a) hN.2) i hi
            unfold fs sn at z
            omega
          have rB1 : rg8 (ub Bg2 1) (ub En2 1) (rA (mul (Rb b) (st b) (en b)) N N).length := fun i hi => by
            have z := hB i hi
            have z2 := (rA_rg (R := Rb b) (st := st b) (en := en b) hN.2) i hi
            unfold fs sn at z
            omega
          have fl := f37.tr f43
          have ka : KrA h43 p N Bg2 En2 (up (up Cn 0 ((rA (mul (Rb a) (st a) (en a)) N N).length : Int)) 1 ((rA (mul (Rb b) (st b) (en b)) N N).length : Int)) pr td := ⟨tx2.C, As2, (fl _ (by omega) (by omega)).trans PA, (fl _ (by omega) (by omega)).trans PB⟩
          refine k_mfar (d := d) hz hN (Bg := Bg2) (En := En2) la lb rA1 rB1 ((up_n _ _ (by omega)).trans (up_s _ _ _)) (up_s _ _ _) (fun h pr2 td2 r k9 z9 f9 g9 => ?_) 0 (by omega) h43 pr td ka PZ1 Fr.rf (fun q h => absurd h (Nat.not_lt_zero _))
          refine ⟨_, rfl, rfl, Or.inl ⟨⟨by omega, by omega, by omega, by omega, by omega, by omega⟩, r, rfl, g9.1, fun t ht z => g9.2.1 t ht ⟨(CPu_l hA hB).mpr z.1, (CPu_l hB hA).mpr z.2⟩, fun z => ⟨(CPu_l hA hB).mp (g9.2.2 z).1, (CPu_l hB hA).mp (g9.2.2 z).2⟩⟩, tx2.keep (fun x hx => f9 x (by omega)), fun x h1 h2 => (f9 x (by omega)).trans (fl x h1 (by omega)), ⟨_, _, _, k9.2.1⟩, ⟨pr2, td2, k9.2.2.1, k9.2.2.2, z9⟩⟩
        · refine x_iconst (pc := 32) dX7_far_32 ?_
          refine x_iret (pc := 33) dX7_far_33 rfl (by first | exact ⟨_, rfl, rfl, Or.inr ⟨fun q => by omega, rfl⟩, tx, fun x _ _ => rfl, ⟨Bg, En, Cn, As⟩, ⟨pr, td, PA, PB, PZ1⟩⟩)

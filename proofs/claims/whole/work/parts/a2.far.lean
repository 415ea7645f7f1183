def fs (L : List (Nat × Nat)) : Nat → Int := fun i => ((L.getD i (0, 0)).1 : Int)
def sn (L : List (Nat × Nat)) : Nat → Int := fun i => ((L.getD i (0, 0)).2 : Int)
def CPl (L1 L2 : List (Nat × Nat)) (most : Nat) : Prop := CPu (fs L1) (sn L1) L1.length (fs L2) (sn L2) L2.length most
theorem CPu_l {L1 L2 : List (Nat × Nat)} {u1 v1 u2 v2 : Nat → Int} {most : Nat} (h1 : ∀ i, i < L1.length → u1 i = fs L1 i ∧ v1 i = sn L1 i) (h2 : ∀ i, i < L2.length → u2 i = fs L2 i ∧ v2 i = sn L2 i) : CPu u1 v1 L1.length u2 v2 L2.length most ↔ CPl L1 L2 most := by
  unfold CPl CPu
  refine Pm.cg (fun i o hi ho => ?_) (fun i hi => ?_)
  · show csp u1 v1 u2 v2 i o ≤ _ ↔ csp (fs L1) (sn L1) (fs L2) (sn L2) i o ≤ _
    unfold csp
    rw [(h1 i hi).1, (h1 i hi).2, (h2 o ho).1, (h2 o ho).2]
  · show (most : Int) < v1 i - u1 i + 1 ↔ (most : Int) < sn L1 i - fs L1 i + 1
    rw [(h1 i hi).1, (h1 i hi).2]
/-- how far two lists of spans are from each other -/
def farL (L1 L2 : List (Nat × Nat)) (N r : Nat) : Prop := r ≤ N ∧ (∀ q, q < r → ¬ (CPl L1 L2 q ∧ CPl L2 L1 q)) ∧ (r < N → CPl L1 L2 r ∧ CPl L2 L1 r)
theorem farL.uni {L1 L2 : List (Nat × Nat)} {N r r' : Nat} (h : farL L1 L2 N r) (h' : farL L1 L2 N r') : r = r' := by
  rcases Nat.lt_trichotomy r r' with q | q | q
  · exact absurd (h.2.2 (by have := h'.1; omega)) (h'.2.1 r q)
  · exact q
  · exact absurd (h'.2.2 (by have := h.1; omega)) (h.2.1 r' q)
theorem Lk.at0 {L : List (Nat × Nat)} {u v : Nat → Int} (h : Lk L 0 u v) : ∀ i, i < L.length → u i = fs L i ∧ v i = sn L i := fun i hi => by
  have := h i hi
  rw [Nat.zero_add] at this
  exact this

set_option maxRecDepth 4000 in
theorem t_far6 {K : Type} [Lean.Grind.CommRing K] {f : Int → K} {G : GL} {d : Nat} {hp : HP} {sz p N : Nat} (hf : Iot p f) (C : ClsA hp p N) (hz : 92 ≤ sz) (hN : 1 ≤ N ∧ N ≤ 8) (hP : isP p) {S T : Nat → Nat → Int} {W : Nat → Nat} (Ls : LysA hp S T W) (hS : inS S) (hT : ∀ l, l < 8 → inL (T l) p) {Rb : Nat → Nat} {st en : Nat → Nat → Nat} {xb : Nat → Nat → Nat → Nat → K} (hBs : ∀ l, l < 8 → Bar N 4 (szc S l) (Lw (W l)) (TK f (T l) (Lw (W l)) (szc S l) 0) (Rb l) (st l) (en l) (xb l)) (Pz : PZ hp p N) (sp1 : ∃ u v c, SpA hp 76 u v c) (sp2 : ∃ u v c, SpA hp 79 u v c) (px : PrX hp) {x : Int} (hx : -2147483648 ≤ x ∧ x < 2147483648) {y : Int} (hy : -2147483648 ≤ y ∧ y < 2147483648) : Ct G (d + 6) 0 0 mX6_far [vr 0, vi x, vi y] hp sz (Vs (fun v h => (((0 ≤ x ∧ x < 8 ∧ 0 ≤ y ∧ y < 8 ∧ W x.toNat = W y.toNat ∧ W x.toNat = 0) ∧ ∃ r : Nat, v = vi r ∧ farL (rA (mul (Rb x.toNat) (st x.toNat) (en x.toNat)) N N) (rA (mul (Rb y.toNat) (st y.toNat) (en y.toNat)) N N) N r) ∨ (¬ (0 ≤ x ∧ x < 8 ∧ 0 ≤ y ∧ y < 8 ∧ W x.toNat = W y.toNat ∧ W x.toNat = 0) ∧ v = vi (-1))) ∧ Fr hp h 36 86 ∧ PZ h p N ∧ (∃ u v c, SpA h 76 u v c) ∧ (∃ u v c, SpA h 79 u v c) ∧ PrX h) sz) := by
  show Ex _ _ _ _ _ _ [vr 0, vi x, vi y] _ _ _ _
  obtain ⟨C0, C1, C2, C3, C4, C5, C6, C7, C8, C9, g, gA, gB⟩ := id C
  have hob := C0.ob
  obtain ⟨Kc, PX, h0⟩ := Pz
  obtain ⟨u1, v1, c1, S1⟩ := sp1
  obtain ⟨u2, v2, c2, S2⟩ := sp2
  refine x_aload_n (pc := 0) dX6_far_0 rfl ?_
  refine x_iload_n (pc := 1) dX6_far_1 rfl ?_
  refine x_iload_n (pc := 2) dX6_far_2 rfl ?_
  refine x_w2 (pc := 3) dX6_far_3 wX6_haveSameWays iX6_haveSameWays kX6_127 (by decide) rfl (Nat.le_of_ble_eq_true rfl) (by assumption) (by omega) (t_haveSame C hz hN Ls hx hy) ?_
  refine x_if_eq (pc := 6) (tgt := 21) dX6_far_6 (by decide) (bz_rg _) (fun c6 => ?_) (fun c6 => ?_)
  · have d1 := bz_e c6
    refine x_iconst (pc := 21) dX6_far_21 ?_
    refine x_iret (pc := 22) dX6_far_22 rfl (by first | exact ⟨_, rfl, rfl, Or.inr ⟨fun z => hw0 z.2.2.2.2.2, rfl⟩, Fr.rf, ⟨Kc, PX, h0⟩, ⟨u1, v1, c1, S1⟩, ⟨u2, v2, c2, S2⟩, px⟩ | exact ⟨_, rfl, rfl, Or.inr ⟨fun z => d1 ⟨z.1, z.2.1, z.2.2.1, z.2.2.2.1, z.2.2.2.2.1⟩, rfl⟩, Fr.rf, ⟨Kc, PX, h0⟩, ⟨u1, v1, c1, S1⟩, ⟨u2, v2, c2, S2⟩, px⟩)
  · have d1 := bz_n c6
    obtain ⟨q, rfl⟩ : ∃ l : Nat, x = (l : Int) := ⟨x.toNat, by omega⟩
    obtain ⟨r, rfl⟩ : ∃ l : Nat, y = (l : Int) := ⟨y.toNat, by omega⟩
    simp only [Int.toNat_natCast] at d1 ⊢
    have hq8 : q < 8 := by omega
    have hr8 : r < 8 := by omega
    have bq := (hBs q hq8).1
    have br := (hBs r hr8).1
    have lq : (rA (mul (Rb q) (st q) (en q)) N N).length ≤ 32 := by rw [len_bars bq]; exact (hBs q hq8).le32 (hf.inv hP) (hf.ne hP.le.1) hN.2 (szc_4 hS hq8)
    have lr : (rA (mul (Rb r) (st r) (en r)) N N).length ≤ 32 := by rw [len_bars br]; exact (hBs r hr8).le32 (hf.inv hP) (hf.ne hP.le.1) hN.2 (szc_4 hS hr8)
    obtain ⟨LQ1, LQ2, LQ3, LQ4, LQ5⟩ := id (Ls q hq8).1
    have hwq := (Ls q hq8).2
    refine x_aload_n (pc := 9) dX6_far_9 rfl ?_
    refine x_gf (pc := 10) dX6_far_10 fX6_31 (by assumption) (by omega) ?_
    refine x_iload_n (pc := 13) dX6_far_13 rfl ?_
    refine x_al (pc := 14) dX6_far_14 (by assumption) (by omega) rfl (by omega) (gB q hq8) ?_
    refine x_gn (pc := 15) dX6_far_15 fX6_120 (by assumption) (by omega) ?_
    refine x_if_eq (pc := 18) (tgt := 23) dX6_far_18 (by decide) (by omega) (fun c18 => ?_) (fun c18 => ?_)
    · have hw0 : W q = 0 := by omega
      refine x_aload_n (pc := 23) dX6_far_23 rfl ?_
      refine x_gf (pc := 24) dX6_far_24 fX6_54 (by assumption) (by omega) ?_
      refine x_aload_n (pc := 27) dX6_far_27 rfl ?_
      refine x_gf (pc := 28) dX6_far_28 fX6_31 (by assumption) (by omega) ?_
      refine x_iload_n (pc := 31) dX6_far_31 rfl ?_
      refine x_al (pc := 32) dX6_far_32 (by assumption) (by omega) rfl (by omega) (gB q hq8) ?_
      refine x_aload_n (pc := 33) dX6_far_33 rfl ?_
      refine x_gf (pc := 34) dX6_far_34 fX6_61 (by assumption) (by omega) ?_
      refine x_p2 (pc := 37) dX6_far_37 wX2_part iX2_part kX6_183 (by decide) rfl (Nat.le_of_ble_eq_true rfl) PX.ob (by omega) (t_part (d := d) hf hz hP (a := 2 + 3 * q) (by omega) (Ls q hq8).2 (szc_8 hS hq8) (hT q hq8) (hBs q hq8) hN (bs := 76) (by omega) (Ls q hq8).1 PX h0 S1 lq) (fun h37 e37 => ?_)
      obtain ⟨f37, ⟨K1, PX1, h01⟩, u3, v3, S3, lk3⟩ := e37
      have C1' := C.keep (f37 0 (by omega)) (f37 1 (by omega))
      have Ls1 := Ls.kp (fun x h1 h2 => f37 x (by omega))
      have S2' := S2.keep (hp' := h37) (fun x h1 h2 => f37 x (by omega))
      obtain ⟨C0, C1, C2, C3, C4, C5, C6, C7, C8, C9, g, gA, gB⟩ := id C1'
      refine x_aload_n (pc := 40) dX6_far_40 rfl ?_
      refine x_gf (pc := 41) dX6_far_41 fX6_54 (by assumption) (by omega) ?_
      refine x_aload_n (pc := 44) dX6_far_44 rfl ?_
      refine x_gf (pc := 45) dX6_far_45 fX6_31 (by assumption) (by omega) ?_
      refine x_iload_n (pc := 48) dX6_far_48 rfl ?_
      refine x_al (pc := 49) dX6_far_49 (by assumption) (by omega) rfl (by omega) (gB r hr8) ?_
      refine x_aload_n (pc := 50) dX6_far_50 rfl ?_
      refine x_gf (pc := 51) dX6_far_51 fX6_65 (by assumption) (by omega) ?_
      refine x_p2 (pc := 54) dX6_far_54 wX2_part iX2_part kX6_183 (by decide) rfl (Nat.le_of_ble_eq_true rfl) PX1.ob (by omega) (t_part (d := d) hf hz hP (a := 2 + 3 * r) (by omega) (Ls1 r hr8).2 (szc_8 hS hr8) (hT r hr8) (hBs r hr8) hN (bs := 79) (by omega) (Ls1 r hr8).1 PX1 h01 S2' lr) (fun h54 e54 => ?_)
      obtain ⟨f54, pz2, u4, v4, S4, lk4⟩ := e54
      have Ca := C1'.keep (f54 0 (by omega)) (f54 1 (by omega))
      have Lsa := Ls1.kp (fun x h1 h2 => f54 x (by omega))
      have S3' := S3.keep (hp' := h54) (fun x h1 h2 => f54 x (by omega))
      have FFF : Fr hp h54 36 81 := fun x hx => (f54 x (by omega)).trans (f37 x (by omega))
      obtain ⟨C0, C1, C2, C3, C4, C5, C6, C7, C8, C9, g, gA, gB⟩ := id Ca
      have hobA := C0.ob
      have px2 : PrX h54 := by
        obtain ⟨po, pt, rf, wt, pa⟩ := px
        exact ⟨po, pt, rf, wt, pa.keep (fun x h1 h2 => FFF x (by omega))⟩
      have hobP : isob h54 82 1 := by
        obtain ⟨po, pt, rf, wt, pa⟩ := px2
        exact pa.ob
      refine x_aload_n (pc := 57) dX6_far_57 rfl ?_
      refine x_gf (pc := 58) dX6_far_58 fX6_71 (by assumption) (by omega) ?_
      refine x_aload_n (pc := 61) dX6_far_61 rfl ?_
      refine x_gf (pc := 62) dX6_far_62 fX6_61 (by assumption) (by omega) ?_
      refine x_aload_n (pc := 65) dX6_far_65 rfl ?_
      refine x_gf (pc := 66) dX6_far_66 fX6_65 (by assumption) (by omega) ?_
      refine x_aload_n (pc := 69) dX6_far_69 rfl ?_
      refine x_gf (pc := 70) dX6_far_70 fX6_26 (by assumption) (by omega) ?_
      refine x_y3 (pc := 73) dX6_far_73 wX1_leastCost iX1_leastCost kX6_212 (by decide) rfl (Nat.le_of_ble_eq_true rfl) hobP (by omega) (t_leastCost (d := d + 1) hz hN.2 (b1 := 76) (b2 := 79) (by omega) (by omega) lq lr (fun i hi => by have z := Lk.at0 lk3 i hi; have z2 := (rA_rg (R := Rb q) (st := st q) (en := en q) hN.2) i hi; unfold fs sn at z; omega) (fun i hi => by have z := Lk.at0 lk4 i hi; have z2 := (rA_rg (R := Rb r) (st := st r) (en := en r) hN.2) i hi; unfold fs sn at z; omega) S3' S4 px2) (fun v73 h73 e73 => ?_)
      obtain ⟨r9, rfl, px3, f73, g1, g2, g3⟩ := e73
      have S3b := S3'.keep (hp' := h73) (fun x h1 h2 => f73 x (by omega))
      have S4b := S4.keep (hp' := h73) (fun x h1 h2 => f73 x (by omega))
      have pz3 : PZ h73 p N := by
        obtain ⟨K2, z1, z2⟩ := pz2
        exact ⟨K2, z1.keep (fun x h1 h2 => f73 x (by omega)), z2⟩
      refine x_iret (pc := 76) dX6_far_76 rfl ⟨_, rfl, rfl, Or.inl ⟨⟨d1.1, d1.2.1, d1.2.2.1, d1.2.2.2.1, d1.2.2.2.2, hw0⟩, r9, rfl, g1, fun t ht z => g2 t ht ⟨(CPu_l (Lk.at0 lk3) (Lk.at0 lk4)).mpr z.1, (CPu_l (Lk.at0 lk4) (Lk.at0 lk3)).mpr z.2⟩, fun z => ⟨(CPu_l (Lk.at0 lk3) (Lk.at0 lk4)).mp (g3 z).1, (CPu_l (Lk.at0 lk4) (Lk.at0 lk3)).mp (g3 z).2⟩⟩, fun x hx => (f73 x (by omega)).trans (FFF x (by omega)), pz3, ⟨_, _, _, S3b⟩, ⟨_, _, _, S4b⟩, px3⟩
    · have hw0 : ¬ W q = 0 := by omega
      refine x_iconst (pc := 21) dX6_far_21 ?_
      refine x_iret (pc := 22) dX6_far_22 rfl (by first | exact ⟨_, rfl, rfl, Or.inr ⟨fun z => hw0 z.2.2.2.2.2, rfl⟩, Fr.rf, ⟨Kc, PX, h0⟩, ⟨u1, v1, c1, S1⟩, ⟨u2, v2, c2, S2⟩, px⟩ | exact ⟨_, rfl, rfl, Or.inr ⟨fun z => d1 ⟨z.1, z.2.1, z.2.2.1, z.2.2.2.1, z.2.2.2.2.1⟩, rfl⟩, Fr.rf, ⟨Kc, PX, h0⟩, ⟨u1, v1, c1, S1⟩, ⟨u2, v2, c2, S2⟩, px⟩)

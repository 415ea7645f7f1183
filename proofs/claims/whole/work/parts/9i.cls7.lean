def PZ (h : HP) (p N : Nat) : Prop := ∃ Kc, PaX h p N Kc ∧ ∀ j, j < 10 → Kc 0 j = 0
theorem PZ.keep {h h' : HP} {p N : Nat} (P : PZ h p N) (e : ∀ x, 36 ≤ x → x ≤ 75 → h' x = h x) : PZ h' p N := by
  obtain ⟨Kc, a, b⟩ := P
  exact ⟨Kc, a.keep e, b⟩
def szc (S : Nat → Nat → Int) (l : Nat) : Nat → Nat := fun k => if k < 8 then (S l k).toNat else 0
theorem szc_8 {S : Nat → Nat → Int} (hS : inS S) {l : Nat} (hl : l < 8) : cs8 (S l) (szc S l) := fun k hk => by
  have := hS l k hl hk
  unfold szc
  rw [if_pos hk]
  omega
theorem szc_4 {S : Nat → Nat → Int} (hS : inS S) {l : Nat} (hl : l < 8) (k : Nat) : szc S l k ≤ 4 := by
  by_cases h : k < 8
  · exact (szc_8 hS hl k h).2
  · unfold szc
    rw [if_neg h]
    omega
theorem LysA.kp {hp h : HP} {S T : Nat → Nat → Int} {W : Nat → Nat} (Ls : LysA hp S T W) (e : ∀ x, 2 ≤ x → x ≤ 25 → h x = hp x) : LysA h S T W := fun l hl => ⟨(Ls l hl).1.keep (fun x h1 h2 => e x (by omega) (by omega)), (Ls l hl).2⟩

set_option maxRecDepth 4000 in
theorem t_spans6 {K : Type} [Lean.Grind.CommRing K] {f : Int → K} {G : GL} {d : Nat} {hp : HP} {sz p N : Nat} (hf : Iot p f) (C : ClsA hp p N) (hz : 92 ≤ sz) (hN : 1 ≤ N ∧ N ≤ 8) (hP : isP p) {S T : Nat → Nat → Int} {W : Nat → Nat} (Ls : LysA hp S T W) (hS : inS S) (hT : ∀ l, l < 8 → inL (T l) p) {Rb : Nat → Nat} {st en : Nat → Nat → Nat} {xb : Nat → Nat → Nat → Nat → K} (hBs : ∀ l, l < 8 → Bar N 4 (szc S l) (Lw (W l)) (TK f (T l) (Lw (W l)) (szc S l) 0) (Rb l) (st l) (en l) (xb l)) (Pz : PZ hp p N) {x : Int} (hx : -2147483648 ≤ x ∧ x < 2147483648) {y : Int} (hy : -2147483648 ≤ y ∧ y < 2147483648) {z : Int} (hz1 : -2147483648 ≤ z ∧ z < 2147483648) : Ct G (d + 6) 0 0 mX6_spans [vr 0, vi x, vi y, vi z] hp sz (Vs (fun v h => v = vi (if 0 ≤ x ∧ x < 8 ∧ 0 ≤ y ∧ y ≤ z ∧ z < N then (mul (Rb x.toNat) (st x.toNat) (en x.toNat) y.toNat z.toNat : Nat) else -1) ∧ Fr hp h 36 75 ∧ PZ h p N) sz) := by
  show Ex _ _ _ _ _ _ [vr 0, vi x, vi y, vi z] _ _ _ _
  obtain ⟨Kc, PX, h0⟩ := Pz
  obtain ⟨C0, C1, C2, C3, C4, C5, C6, C7, C8, C9, g, gA, gB⟩ := id C
  have hob := C0.ob
  refine x_aload_n (pc := 0) dX6_spans_0 rfl ?_
  refine x_iload_n (pc := 1) dX6_spans_1 rfl ?_
  refine x_w1 (pc := 2) dX6_spans_2 wX6_isLaying iX6_isLaying kX6_82 (by decide) rfl (Nat.le_of_ble_eq_true rfl) (by assumption) (by omega) (t_isLaying C hz hN hx) ?_
  refine x_if_eq (pc := 5) (tgt := 17) dX6_spans_5 (by decide) (bz_rg _) (fun c5 => ?_) (fun c5 => ?_)
  · have d1 := bz_e c5
    refine x_iconst (pc := 17) dX6_spans_17 ?_
    refine x_iret (pc := 18) dX6_spans_18 rfl ⟨_, rfl, rfl, by rw [if_neg (fun q => by omega)], Fr.rf, ⟨Kc, PX, h0⟩⟩
  · have d1 := bz_n c5
    refine x_aload_n (pc := 8) dX6_spans_8 rfl ?_
    refine x_iload_n (pc := 9) dX6_spans_9 rfl ?_
    refine x_iload_n (pc := 10) dX6_spans_10 rfl ?_
    refine x_w2 (pc := 11) dX6_spans_11 wX6_isSpan iX6_isSpan kX6_123 (by decide) rfl (Nat.le_of_ble_eq_true rfl) (by assumption) (by omega) (t_isSpan C hz hN hy hz1) ?_
    refine x_if_ne (pc := 14) (tgt := 19) dX6_spans_14 (by decide) (bz_rg _) (fun c14 => ?_) (fun c14 => ?_)
    · have d2 := bz_n c14
      obtain ⟨l, rfl⟩ : ∃ l : Nat, x = (l : Int) := ⟨x.toNat, by omega⟩
      obtain ⟨a, rfl⟩ : ∃ l : Nat, y = (l : Int) := ⟨y.toNat, by omega⟩
      obtain ⟨b, rfl⟩ : ∃ l : Nat, z = (l : Int) := ⟨z.toNat, by omega⟩
      simp only [Int.toNat_natCast]
      refine x_aload_n (pc := 19) dX6_spans_19 rfl ?_
      refine x_gf (pc := 20) dX6_spans_20 fX6_54 (by assumption) (by omega) ?_
      refine x_aload_n (pc := 23) dX6_spans_23 rfl ?_
      refine x_gf (pc := 24) dX6_spans_24 fX6_31 (by assumption) (by omega) ?_
      refine x_iload_n (pc := 27) dX6_spans_27 rfl ?_
      refine x_al (pc := 28) dX6_spans_28 (by assumption) (by omega) rfl (by omega) (gB l (by omega)) ?_
      refine x_iload_n (pc := 29) dX6_spans_29 rfl ?_
      refine x_iload_n (pc := 30) dX6_spans_30 rfl ?_
      refine x_y3 (pc := 31) dX6_spans_31 wX2_times iX2_times kX6_197 (by decide) rfl (Nat.le_of_ble_eq_true rfl) PX.ob (by omega) (t_times (d := d) hf hz hP (a := 2 + 3 * l) (by omega) (Ls l (by omega)).2 (szc_8 hS (by omega)) (hT l (by omega)) (hBs l (by omega)) hN (i0 := a) (i1 := b) (by omega) (by omega) (Ls l (by omega)).1 PX h0) (fun v31 h31 e31 => ?_)
      obtain ⟨rfl, f1, pz⟩ := e31
      refine x_iret (pc := 34) dX6_spans_34 rfl ⟨_, rfl, rfl, by rw [if_pos (by omega)], f1, pz⟩
    · have d2 := bz_e c14
      refine x_iconst (pc := 17) dX6_spans_17 ?_
      refine x_iret (pc := 18) dX6_spans_18 rfl ⟨_, rfl, rfl, by rw [if_neg (fun q => by omega)], Fr.rf, ⟨Kc, PX, h0⟩⟩

set_option maxRecDepth 4000 in
theorem t_rank6 {K : Type} [Lean.Grind.CommRing K] {f : Int → K} {G : GL} {d : Nat} {hp : HP} {sz p N : Nat} (hf : Iot p f) (C : ClsA hp p N) (hz : 92 ≤ sz) (hN : 1 ≤ N ∧ N ≤ 8) (hP : isP p) {S T : Nat → Nat → Int} {W : Nat → Nat} (Ls : LysA hp S T W) (hS : inS S) (hT : ∀ l, l < 8 → inL (T l) p) {Rb : Nat → Nat} {st en : Nat → Nat → Nat} {xb : Nat → Nat → Nat → Nat → K} (hBs : ∀ l, l < 8 → Bar N 4 (szc S l) (Lw (W l)) (TK f (T l) (Lw (W l)) (szc S l) 0) (Rb l) (st l) (en l) (xb l)) (Pz : PZ hp p N) {x : Int} (hx : -2147483648 ≤ x ∧ x < 2147483648) {y : Int} (hy : -2147483648 ≤ y ∧ y < 2147483648) {z : Int} (hz1 : -2147483648 ≤ z ∧ z < 2147483648) : Ct G (d + 6) 0 0 mX6_rank [vr 0, vi x, vi y, vi z] hp sz (Vs (fun v h => (((0 ≤ x ∧ x < 8 ∧ 0 ≤ y ∧ y < N ∧ 0 ≤ z ∧ z < N ∧ ∀ k : Nat, min y.toNat z.toNat ≤ k → k < max y.toNat z.toNat → Lw (W x.toNat) k = decide (z.toNat < y.toNat)) ∧ v = vi (cov (Rb x.toNat) (st x.toNat) (en x.toNat) (min y.toNat z.toNat) (max y.toNat z.toNat) : Nat)) ∨ ((¬ (0 ≤ x ∧ x < 8 ∧ 0 ≤ y ∧ y < N ∧ 0 ≤ z ∧ z < N ∧ ∀ k : Nat, min y.toNat z.toNat ≤ k → k < max y.toNat z.toNat → Lw (W x.toNat) k = decide (z.toNat < y.toNat))) ∧ v = vi (-1))) ∧ Fr hp h 36 75 ∧ PZ h p N) sz) := by
  show Ex _ _ _ _ _ _ [vr 0, vi x, vi y, vi z] _ _ _ _
  obtain ⟨Kc, PX, h0⟩ := Pz
  obtain ⟨C0, C1, C2, C3, C4, C5, C6, C7, C8, C9, g, gA, gB⟩ := id C
  have hob := C0.ob
  refine x_aload_n (pc := 0) dX6_rank_0 rfl ?_
  refine x_iload_n (pc := 1) dX6_rank_1 rfl ?_
  refine x_w1 (pc := 2) dX6_rank_2 wX6_isLaying iX6_isLaying kX6_82 (by decide) rfl (Nat.le_of_ble_eq_true rfl) (by assumption) (by omega) (t_isLaying C hz hN hx) ?_
  refine x_if_eq (pc := 5) (tgt := 38) dX6_rank_5 (by decide) (bz_rg _) (fun c5 => ?_) (fun c5 => ?_)
  · have d1 := bz_e c5
    refine x_iconst (pc := 38) dX6_rank_38 ?_
    refine x_iret (pc := 39) dX6_rank_39 rfl (by first | exact ⟨_, rfl, rfl, Or.inr ⟨fun q => by omega, rfl⟩, Fr.rf, ⟨Kc, PX, h0⟩⟩ | exact ⟨_, rfl, rfl, Or.inr ⟨fun q => hnled (hrb.mpr q.2.2.2.2.2.2), rfl⟩, Fr.rf, ⟨Kc, PX, h0⟩⟩)
  · have d1 := bz_n c5
    refine x_aload_n (pc := 8) dX6_rank_8 rfl ?_
    refine x_iload_n (pc := 9) dX6_rank_9 rfl ?_
    refine x_w1 (pc := 10) dX6_rank_10 wX6_isPost iX6_isPost kX6_117 (by decide) rfl (Nat.le_of_ble_eq_true rfl) (by assumption) (by omega) (t_isPost C hz hN hy) ?_
    refine x_if_eq (pc := 13) (tgt := 38) dX6_rank_13 (by decide) (bz_rg _) (fun c13 => ?_) (fun c13 => ?_)
    · have d2 := bz_e c13
      refine x_iconst (pc := 38) dX6_rank_38 ?_
      refine x_iret (pc := 39) dX6_rank_39 rfl (by first | exact ⟨_, rfl, rfl, Or.inr ⟨fun q => by omega, rfl⟩, Fr.rf, ⟨Kc, PX, h0⟩⟩ | exact ⟨_, rfl, rfl, Or.inr ⟨fun q => hnled (hrb.mpr q.2.2.2.2.2.2), rfl⟩, Fr.rf, ⟨Kc, PX, h0⟩⟩)
    · have d2 := bz_n c13
      refine x_aload_n (pc := 16) dX6_rank_16 rfl ?_
      refine x_iload_n (pc := 17) dX6_rank_17 rfl ?_
      refine x_w1 (pc := 18) dX6_rank_18 wX6_isPost iX6_isPost kX6_117 (by decide) rfl (Nat.le_of_ble_eq_true rfl) (by assumption) (by omega) (t_isPost C hz hN hz1) ?_
      refine x_if_eq (pc := 21) (tgt := 38) dX6_rank_21 (by decide) (bz_rg _) (fun c21 => ?_) (fun c21 => ?_)
      · have d3 := bz_e c21
        refine x_iconst (pc := 38) dX6_rank_38 ?_
        refine x_iret (pc := 39) dX6_rank_39 rfl (by first | exact ⟨_, rfl, rfl, Or.inr ⟨fun q => by omega, rfl⟩, Fr.rf, ⟨Kc, PX, h0⟩⟩ | exact ⟨_, rfl, rfl, Or.inr ⟨fun q => hnled (hrb.mpr q.2.2.2.2.2.2), rfl⟩, Fr.rf, ⟨Kc, PX, h0⟩⟩)
      · have d3 := bz_n c21
        obtain ⟨l, rfl⟩ : ∃ l : Nat, x = (l : Int) := ⟨x.toNat, by omega⟩
        obtain ⟨a, rfl⟩ : ∃ l : Nat, y = (l : Int) := ⟨y.toNat, by omega⟩
        obtain ⟨b, rfl⟩ : ∃ l : Nat, z = (l : Int) := ⟨z.toNat, by omega⟩
        simp only [Int.toNat_natCast]
        refine x_aload_n (pc := 24) dX6_rank_24 rfl ?_
        refine x_gf (pc := 25) dX6_rank_25 fX6_31 (by assumption) (by omega) ?_
        refine x_iload_n (pc := 28) dX6_rank_28 rfl ?_
        refine x_al (pc := 29) dX6_rank_29 (by assumption) (by omega) rfl (by omega) (gB l (by omega)) ?_
        refine x_iload_n (pc := 30) dX6_rank_30 rfl ?_
        refine x_iload_n (pc := 31) dX6_rank_31 rfl ?_
        refine x_z3 (pc := 32) dX6_rank_32 wX6_isLed sX6_isLed kX6_205 (by decide) rfl (Nat.le_of_ble_eq_true rfl) (t_isLed (Ls l (by omega)).1 (by omega) (Ls l (by omega)).2 (by omega) (by omega)) (fun v32 h32 e32 => ?_)
        obtain ⟨rfl, rb, rfl, hrb⟩ := e32
        refine x_if_ne (pc := 35) (tgt := 40) dX6_rank_35 (by decide) (bz_rg _) (fun c35 => ?_) (fun c35 => ?_)
        · have hled := hrb.mp (by cases rb; exact absurd rfl c35; rfl)
          refine x_aload_n (pc := 40) dX6_rank_40 rfl ?_
          refine x_gf (pc := 41) dX6_rank_41 fX6_54 (by assumption) (by omega) ?_
          refine x_aload_n (pc := 44) dX6_rank_44 rfl ?_
          refine x_gf (pc := 45) dX6_rank_45 fX6_31 (by assumption) (by omega) ?_
          refine x_iload_n (pc := 48) dX6_rank_48 rfl ?_
          refine x_al (pc := 49) dX6_rank_49 (by assumption) (by omega) rfl (by omega) (gB l (by omega)) ?_
          refine x_iload_n (pc := 50) dX6_rank_50 rfl ?_
          refine x_iload_n (pc := 51) dX6_rank_51 rfl ?_
          refine x_t2 (pc := 52) dX6_rank_52 wJ9_min_7cf53 sJ9_min_7cf53 kX6_17 (by decide) rfl (Nat.le_of_ble_eq_true rfl) (t_min (by omega) (by omega)) ?_
          rw [show min (a : Int) (b : Int) = ((min a b : Nat) : Int) by omega]
          refine x_iload_n (pc := 55) dX6_rank_55 rfl ?_
          refine x_iload_n (pc := 56) dX6_rank_56 rfl ?_
          refine x_t2 (pc := 57) dX6_rank_57 wJ9_max_7cf53 sJ9_max_7cf53 kX6_23 (by decide) rfl (Nat.le_of_ble_eq_true rfl) (t_max (by omega) (by omega)) ?_
          rw [show max (a : Int) (b : Int) = ((max a b : Nat) : Int) by omega]
          refine x_y3 (pc := 60) dX6_rank_60 wX2_covering iX2_covering kX6_209 (by decide) rfl (Nat.le_of_ble_eq_true rfl) PX.ob (by omega) (t_covering (d := d) hf hz hP (a := 2 + 3 * l) (by omega) (Ls l (by omega)).2 (szc_8 hS (by omega)) (hT l (by omega)) (hBs l (by omega)) hN (i0 := min a b) (la := max a b) (by omega) (by omega) (Ls l (by omega)).1 PX) (fun v60 h60 e60 => ?_)
          obtain ⟨rfl, f1, K1, p1, k1⟩ := e60
          refine x_iret (pc := 63) dX6_rank_63 rfl ⟨_, rfl, rfl, Or.inl ⟨⟨by omega, by omega, by omega, by omega, by omega, by omega, hled⟩, rfl⟩, f1, ⟨K1, p1, fun j hj => (k1 j hj).trans (h0 j hj)⟩⟩
        · have hnled : ¬ rb = true := fun q => by rw [q] at c35; exact absurd c35 (by decide)
          refine x_iconst (pc := 38) dX6_rank_38 ?_
          refine x_iret (pc := 39) dX6_rank_39 rfl (by first | exact ⟨_, rfl, rfl, Or.inr ⟨fun q => by omega, rfl⟩, Fr.rf, ⟨Kc, PX, h0⟩⟩ | exact ⟨_, rfl, rfl, Or.inr ⟨fun q => hnled (hrb.mpr q.2.2.2.2.2.2), rfl⟩, Fr.rf, ⟨Kc, PX, h0⟩⟩)

theorem k_mos2 {G : GL} {d : Nat} {hp : HP} {sz p N : Nat} (C : ClsA hp p N) (hz : 92 ≤ sz) (hN : 1 ≤ N ∧ N ≤ 8) {u1 e1 u2 e2 : Nat → Int} {L1 L2 : List (Nat × Nat)} (S1 : SpA hp 76 u1 e1 L1.length) (S2 : SpA hp 79 u2 e2 L2.length) (k1 : Lk L1 0 u1 e1) (k2 : Lk L2 0 u2 e2) (h1 : ∀ i, i < L1.length → (L1.getD i (0, 0)).1 ≤ (L1.getD i (0, 0)).2 ∧ (L1.getD i (0, 0)).2 < 8) (h2 : ∀ i, i < L2.length → (L2.getD i (0, 0)).1 ≤ (L2.getD i (0, 0)).2 ∧ (L2.getD i (0, 0)).2 < 8) (hl1 : L1.length ≤ 32) (hl2 : L2.length ≤ 32) {q : Nat} {s n : Nat → Int} {w : Nat} (L : Lay hp q s n w) (hq9 : q + 2 < sz) (hw : w < 128) {Q : Option AV → HP → Nat → Prop} {i : Nat} (hi : i < L1.length) {z : Int} (hq : Ex G (d + 2) 0 0 mX6_mapsOfSpans 50 [vr 0, vr q, vi (z + sm L2.length (fun j => bz (vdm (Lw w) (L1.getD i (0, 0)).1 (L1.getD i (0, 0)).2 (L2.getD j (0, 0)).1 (L2.getD j (0, 0)).2))), vi i, vi L2.length] [] hp sz Q) : ∀ j, j ≤ L2.length → Ex G (d + 2) 0 0 mX6_mapsOfSpans 18 [vr 0, vr q, vi (z + sm j (fun j => bz (vdm (Lw w) (L1.getD i (0, 0)).1 (L1.getD i (0, 0)).2 (L2.getD j (0, 0)).1 (L2.getD j (0, 0)).2))), vi i, vi j] [] hp sz Q := by
  obtain ⟨C0, C1, C2, C3, C4, C5, C6, C7, C8, C9, g, gA, gB⟩ := id C
  have hob := C0.ob
  obtain ⟨A1, A2, A3, A4, A5⟩ := id S1
  obtain ⟨B1, B2, B3, B4, B5⟩ := id S2
  obtain ⟨e1a, e1b⟩ := k1 i hi
  rw [Nat.zero_add] at e1a e1b
  refine down ?_ (fun j hj ih => ?_)
  · refine x_iload (pc := 18) dX6_mapsOfSpans_18 rfl ?_
    refine x_aload_n (pc := 20) dX6_mapsOfSpans_20 rfl ?_
    refine x_gf (pc := 21) dX6_mapsOfSpans_21 fX6_65 (by assumption) (by omega) ?_
    refine x_gn (pc := 24) dX6_mapsOfSpans_24 fX6_253 (by assumption) (by omega) ?_
    refine x_icmp_ge (pc := 27) (tgt := 50) dX6_mapsOfSpans_27 (by decide) (by omega) (by omega) (fun c27 => ?_) (fun c27 => ?_)
    · exact hq
    · exact absurd c27 (by omega)
  · obtain ⟨e2a, e2b⟩ := k2 j hj
    rw [Nat.zero_add] at e2a e2b
    refine x_iload (pc := 18) dX6_mapsOfSpans_18 rfl ?_
    refine x_aload_n (pc := 20) dX6_mapsOfSpans_20 rfl ?_
    refine x_gf (pc := 21) dX6_mapsOfSpans_21 fX6_65 (by assumption) (by omega) ?_
    refine x_gn (pc := 24) dX6_mapsOfSpans_24 fX6_253 (by assumption) (by omega) ?_
    refine x_icmp_ge (pc := 27) (tgt := 50) dX6_mapsOfSpans_27 (by decide) (by omega) (by omega) (fun c27 => ?_) (fun c27 => ?_)
    · exact absurd c27 (by omega)
    · refine x_aload_n (pc := 30) dX6_mapsOfSpans_30 rfl ?_
      refine x_aload_n (pc := 31) dX6_mapsOfSpans_31 rfl ?_
      refine x_iload_n (pc := 32) dX6_mapsOfSpans_32 rfl ?_
      refine x_iload (pc := 33) dX6_mapsOfSpans_33 rfl ?_
      refine x_w3 (pc := 35) dX6_mapsOfSpans_35 wX6_isMapped iX6_isMapped kX6_256 (by decide) rfl (Nat.le_of_ble_eq_true rfl) (by assumption) (by omega) (t_isMapped C hz hN S1 S2 L hq9 hw (i := i) (j := j) (by omega) (by omega) e1a e1b e2a e2b (h1 i hi) (h2 j hj)) ?_
      refine x_if_eq (pc := 38) (tgt := 44) dX6_mapsOfSpans_38 (by decide) (bz_rg _) (fun c38 => ?_) (fun c38 => ?_)
      · refine x_iinc (pc := 44) dX6_mapsOfSpans_44 rfl (by decide) rfl ?_
        show Ex _ _ _ _ _ _ [_, _, _, _, _] _ _ _ _
        refine x_goto (pc := 47) (tgt := 18) dX6_mapsOfSpans_47 (by decide) ?_
        have e9 : z + sm (j + 1) (fun j => bz (vdm (Lw w) (L1.getD i (0, 0)).1 (L1.getD i (0, 0)).2 (L2.getD j (0, 0)).1 (L2.getD j (0, 0)).2)) = z + sm j (fun j => bz (vdm (Lw w) (L1.getD i (0, 0)).1 (L1.getD i (0, 0)).2 (L2.getD j (0, 0)).1 (L2.getD j (0, 0)).2)) + bz (vdm (Lw w) (L1.getD i (0, 0)).1 (L1.getD i (0, 0)).2 (L2.getD j (0, 0)).1 (L2.getD j (0, 0)).2) := by rw [sm_s]; omega
        rw [e9] at ih
        rcases bz_01 (vdm (Lw w) (L1.getD i (0, 0)).1 (L1.getD i (0, 0)).2 (L2.getD j (0, 0)).1 (L2.getD j (0, 0)).2) with q9 | q9
        · rw [q9] at ih c38
          first
            | exact absurd rfl c38
            | (rw [Int.add_zero] at ih; exact ih)
        · rw [q9] at ih c38
          first
            | exact absurd c38 (by decide)
            | exact ih
      · refine x_iinc (pc := 41) dX6_mapsOfSpans_41 rfl (by decide) rfl ?_
        show Ex _ _ _ _ _ _ [_, _, _, _, _] _ _ _ _
        refine x_iinc (pc := 44) dX6_mapsOfSpans_44 rfl (by decide) rfl ?_
        show Ex _ _ _ _ _ _ [_, _, _, _, _] _ _ _ _
        refine x_goto (pc := 47) (tgt := 18) dX6_mapsOfSpans_47 (by decide) ?_
        have e9 : z + sm (j + 1) (fun j => bz (vdm (Lw w) (L1.getD i (0, 0)).1 (L1.getD i (0, 0)).2 (L2.getD j (0, 0)).1 (L2.getD j (0, 0)).2)) = z + sm j (fun j => bz (vdm (Lw w) (L1.getD i (0, 0)).1 (L1.getD i (0, 0)).2 (L2.getD j (0, 0)).1 (L2.getD j (0, 0)).2)) + bz (vdm (Lw w) (L1.getD i (0, 0)).1 (L1.getD i (0, 0)).2 (L2.getD j (0, 0)).1 (L2.getD j (0, 0)).2) := by rw [sm_s]; omega
        rw [e9] at ih
        rcases bz_01 (vdm (Lw w) (L1.getD i (0, 0)).1 (L1.getD i (0, 0)).2 (L2.getD j (0, 0)).1 (L2.getD j (0, 0)).2) with q9 | q9
        · rw [q9] at ih c38
          first
            | exact absurd rfl c38
            | (rw [Int.add_zero] at ih; exact ih)
        · rw [q9] at ih c38
          first
            | exact absurd c38 (by decide)
            | exact ih

theorem k_mos1 {G : GL} {d : Nat} {hp : HP} {sz p N : Nat} (C : ClsA hp p N) (hz : 92 ≤ sz) (hN : 1 ≤ N ∧ N ≤ 8) {u1 e1 u2 e2 : Nat → Int} {L1 L2 : List (Nat × Nat)} (S1 : SpA hp 76 u1 e1 L1.length) (S2 : SpA hp 79 u2 e2 L2.length) (k1 : Lk L1 0 u1 e1) (k2 : Lk L2 0 u2 e2) (h1 : ∀ i, i < L1.length → (L1.getD i (0, 0)).1 ≤ (L1.getD i (0, 0)).2 ∧ (L1.getD i (0, 0)).2 < 8) (h2 : ∀ i, i < L2.length → (L2.getD i (0, 0)).1 ≤ (L2.getD i (0, 0)).2 ∧ (L2.getD i (0, 0)).2 < 8) (hl1 : L1.length ≤ 32) (hl2 : L2.length ≤ 32) {q : Nat} {s n : Nat → Int} {w : Nat} (L : Lay hp q s n w) (hq9 : q + 2 < sz) (hw : w < 128) {Q : Option AV → HP → Nat → Prop} (hq : Q (some (vi (sm L1.length (fun i => sm L2.length (fun j => bz (vdm (Lw w) (L1.getD i (0, 0)).1 (L1.getD i (0, 0)).2 (L2.getD j (0, 0)).1 (L2.getD j (0, 0)).2)))))) hp sz) : ∀ i, i ≤ L1.length → ∀ v4, Ex G (d + 2) 0 0 mX6_mapsOfSpans 4 [vr 0, vr q, vi (sm i (fun i => sm L2.length (fun j => bz (vdm (Lw w) (L1.getD i (0, 0)).1 (L1.getD i (0, 0)).2 (L2.getD j (0, 0)).1 (L2.getD j (0, 0)).2)))), vi i, v4] [] hp sz Q := by
  obtain ⟨C0, C1, C2, C3, C4, C5, C6, C7, C8, C9, g, gA, gB⟩ := id C
  have hob := C0.ob
  obtain ⟨A1, A2, A3, A4, A5⟩ := id S1
  obtain ⟨B1, B2, B3, B4, B5⟩ := id S2
  refine down (fun v4 => ?_) (fun i hi ih v4 => ?_)
  · refine x_iload_n (pc := 4) dX6_mapsOfSpans_4 rfl ?_
    refine x_aload_n (pc := 5) dX6_mapsOfSpans_5 rfl ?_
    refine x_gf (pc := 6) dX6_mapsOfSpans_6 fX6_61 (by assumption) (by omega) ?_
    refine x_gn (pc := 9) dX6_mapsOfSpans_9 fX6_253 (by assumption) (by omega) ?_
    refine x_icmp_ge (pc := 12) (tgt := 56) dX6_mapsOfSpans_12 (by decide) (by omega) (by omega) (fun c12 => ?_) (fun c12 => ?_)
    · refine x_iload_n (pc := 56) dX6_mapsOfSpans_56 rfl ?_
      refine x_iret (pc := 57) dX6_mapsOfSpans_57 rfl hq
    · exact absurd c12 (by omega)
  · refine x_iload_n (pc := 4) dX6_mapsOfSpans_4 rfl ?_
    refine x_aload_n (pc := 5) dX6_mapsOfSpans_5 rfl ?_
    refine x_gf (pc := 6) dX6_mapsOfSpans_6 fX6_61 (by assumption) (by omega) ?_
    refine x_gn (pc := 9) dX6_mapsOfSpans_9 fX6_253 (by assumption) (by omega) ?_
    refine x_icmp_ge (pc := 12) (tgt := 56) dX6_mapsOfSpans_12 (by decide) (by omega) (by omega) (fun c12 => ?_) (fun c12 => ?_)
    · exact absurd c12 (by omega)
    · refine x_iconst (pc := 15) dX6_mapsOfSpans_15 ?_
      refine x_istore (pc := 16) dX6_mapsOfSpans_16 (by decide) rfl ?_
      show Ex _ _ _ _ _ _ [_, _, _, _, _] _ _ _ _
      have key := k_mos2 (G := G) (d := d) (Q := Q) C hz hN S1 S2 k1 k2 h1 h2 hl1 hl2 L hq9 hw hi (z := sm i (fun i => sm L2.length (fun j => bz (vdm (Lw w) (L1.getD i (0, 0)).1 (L1.getD i (0, 0)).2 (L2.getD j (0, 0)).1 (L2.getD j (0, 0)).2)))) ?_ 0 (by omega)
      · rw [sm_0, Int.add_zero] at key
        exact key
      · refine x_iinc (pc := 50) dX6_mapsOfSpans_50 rfl (by decide) rfl ?_
        show Ex _ _ _ _ _ _ [_, _, _, _, _] _ _ _ _
        refine x_goto (pc := 53) (tgt := 4) dX6_mapsOfSpans_53 (by decide) ?_
        rw [show sm i (fun i => sm L2.length (fun j => bz (vdm (Lw w) (L1.getD i (0, 0)).1 (L1.getD i (0, 0)).2 (L2.getD j (0, 0)).1 (L2.getD j (0, 0)).2))) + sm L2.length (fun j => bz (vdm (Lw w) (L1.getD i (0, 0)).1 (L1.getD i (0, 0)).2 (L2.getD j (0, 0)).1 (L2.getD j (0, 0)).2)) = sm (i + 1) (fun i => sm L2.length (fun j => bz (vdm (Lw w) (L1.getD i (0, 0)).1 (L1.getD i (0, 0)).2 (L2.getD j (0, 0)).1 (L2.getD j (0, 0)).2))) from (sm_s _ _).symm]
        exact ih _

theorem t_mos {G : GL} {d : Nat} {hp : HP} {sz p N : Nat} (C : ClsA hp p N) (hz : 92 ≤ sz) (hN : 1 ≤ N ∧ N ≤ 8) {u1 e1 u2 e2 : Nat → Int} {L1 L2 : List (Nat × Nat)} (S1 : SpA hp 76 u1 e1 L1.length) (S2 : SpA hp 79 u2 e2 L2.length) (k1 : Lk L1 0 u1 e1) (k2 : Lk L2 0 u2 e2) (h1 : ∀ i, i < L1.length → (L1.getD i (0, 0)).1 ≤ (L1.getD i (0, 0)).2 ∧ (L1.getD i (0, 0)).2 < 8) (h2 : ∀ i, i < L2.length → (L2.getD i (0, 0)).1 ≤ (L2.getD i (0, 0)).2 ∧ (L2.getD i (0, 0)).2 < 8) (hl1 : L1.length ≤ 32) (hl2 : L2.length ≤ 32) {q : Nat} {s n : Nat → Int} {w : Nat} (L : Lay hp q s n w) (hq9 : q + 2 < sz) (hw : w < 128) : Ct G (d + 2) 0 0 mX6_mapsOfSpans [vr 0, vr q] hp sz (Rd (some (vi (sm L1.length (fun i => sm L2.length (fun j => bz (vdm (Lw w) (L1.getD i (0, 0)).1 (L1.getD i (0, 0)).2 (L2.getD j (0, 0)).1 (L2.getD j (0, 0)).2)))))) hp sz) := by
  show Ex _ _ _ _ _ _ [vr 0, vr q, vu, vu, vu] _ _ _ _
  refine x_iconst (pc := 0) dX6_mapsOfSpans_0 ?_
  refine x_istore_n (pc := 1) dX6_mapsOfSpans_1 (by decide) rfl ?_
  show Ex _ _ _ _ _ _ [_, _, _, _, _] _ _ _ _
  refine x_iconst (pc := 2) dX6_mapsOfSpans_2 ?_
  refine x_istore_n (pc := 3) dX6_mapsOfSpans_3 (by decide) rfl ?_
  show Ex _ _ _ _ _ _ [_, _, _, _, _] _ _ _ _
  exact k_mos1 (d := d) C hz hN S1 S2 k1 k2 h1 h2 hl1 hl2 L hq9 hw ⟨rfl, rfl, rfl⟩ 0 (by omega) _

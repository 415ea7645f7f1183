/-- the number of maps, by the bars -/
def hmn (Lf : Nat → Bool) (RA RB : Nat) (stA enA stB enB : Nat → Nat) : Nat := cnt (RA * RB) (fun t => vdm Lf (stA (t / RB)) (enA (t / RB)) (stB (t % RB)) (enB (t % RB)))

set_option maxRecDepth 4000 in
theorem m_maps {K : Type} [Lean.Grind.CommRing K] {f : Int → K} {G : GL} {d : Nat} {sz p N : Nat} (hf : Iot p f) (hz : 615 ≤ sz) (hN : 1 ≤ N ∧ N ≤ 8) (hP : isP p) {W : Nat → Nat} {S T : Nat → Int} (hS : inSm S) (hT : inTm T p) {Rb : Nat → Nat} {st en : Nat → Nat → Nat} {xb : Nat → Nat → Nat → Nat → K} (hBs : ∀ l, l < 8 → Bar N 4 (szs S l) (Lw (W l)) (TK f T (Lw (W l)) (szs S l) l) (Rb l) (st l) (en l) (xb l)) {hp : HP} (tx : TX hp p N W S T) {x : Int} (hx : -2147483648 ≤ x ∧ x < 2147483648) {y : Int} (hy : -2147483648 ≤ y ∧ y < 2147483648) : Ct G (d + 3) 0 0 mX7_maps [vr 92, vi x, vi y] hp sz (Vs (fun v h => v = vi (if 0 ≤ x ∧ x < 8 ∧ 0 ≤ y ∧ y < 8 ∧ W x.toNat = W y.toNat then (hmn (Lw (W x.toNat)) (Rb x.toNat) (Rb y.toNat) (st x.toNat) (en x.toNat) (st y.toNat) (en y.toNat) : Nat) else -1) ∧ TX h p N W S T ∧ Ft hp h) sz) := by
  show Ex _ _ _ _ _ _ [vr 92, vi x, vi y, vu, vu, vu, vu, vu, vu, vu, vu] _ _ _ _
  have hpl := hP.le
  obtain ⟨M, ld, m, w, g, σ, F, Qs, t⟩ := tx
  obtain ⟨C, D, Mo, FA, ⟨gq, SA, SB⟩, SC⟩ := id t
  obtain ⟨C0, C1, C2, C3, C4, C5, C6, C7, C8, C11, C12, C13, C14, C15, C16, C17, C18, C19, C20, C21, C22, C23⟩ := id C
  have hob := C0.ob
  obtain ⟨D1, D2, D3, D4⟩ := id D
  obtain ⟨O1, O2, O3, O4, O5, O6⟩ := id Mo
  refine x_aload_n (pc := 0) dX7_maps_0 rfl ?_
  refine x_iload_n (pc := 1) dX7_maps_1 rfl ?_
  refine x_iload_n (pc := 2) dX7_maps_2 rfl ?_
  refine x_w2 (pc := 3) dX7_maps_3 wX7_areAlong iX7_areAlong kX7_169 (by decide) rfl (Nat.le_of_ble_eq_true rfl) (by assumption) (by omega) (m_areAlong C hz hN D hx hy) ?_
  refine x_if_ne (pc := 6) (tgt := 11) dX7_maps_6 (by decide) (bz_rg _) (fun c6 => ?_) (fun c6 => ?_)
  · have d1 := bz_n c6
    obtain ⟨la, rfl⟩ : ∃ l : Nat, x = (l : Int) := ⟨x.toNat, by omega⟩
    obtain ⟨lb, rfl⟩ : ∃ l : Nat, y = (l : Int) := ⟨y.toNat, by omega⟩
    simp only [Int.toNat_natCast] at d1 ⊢
    have hla : la < 8 := by omega
    have hlb : lb < 8 := by omega
    have hW := d1.2.2.2.2
    have hw8 := frm_le (sA := szs S la) (sB := szs S lb) (fun k hk => szs_4 hS hla k) (fun k hk => szs_4 hS hlb k) N (by omega)
    refine x_aload_n (pc := 11) dX7_maps_11 rfl ?_
    refine x_gf (pc := 12) dX7_maps_12 fX7_36 (by assumption) (by omega) ?_
    refine x_iconst (pc := 15) dX7_maps_15 ?_
    refine x_iconst (pc := 16) dX7_maps_16 ?_
    refine x_is (pc := 17) (j := 0) dX7_maps_17 (by assumption) (by omega) rfl (by omega) ?_
    refine x_iconst (pc := 18) dX7_maps_18 ?_
    refine x_istore_n (pc := 19) dX7_maps_19 (by decide) rfl ?_
    show Ex _ _ _ _ _ _ [_, _, _, _, _, _, _, _, _, _, _] _ _ _ _
    refine k_maps1 (d := d + 1) hz hN hP hla hlb (szs_8 hS hla) (szs_8 hS hlb) hT 0 (by omega) _ _ (t.fr (F' := up F 0 0)) (fun j h2 => by rw [show j = 0 by omega, up_s]; rfl) (fun hF F1 tF fF' hF1 => ?_)
    have fF : Ft hp hF := (Ft.rf.up (by omega) (by omega) (by omega) (by omega)).tr fF'
    obtain ⟨C, D, Mo, FA, ⟨gq, SA, SB⟩, SC⟩ := id tF
    obtain ⟨C0, C1, C2, C3, C4, C5, C6, C7, C8, C11, C12, C13, C14, C15, C16, C17, C18, C19, C20, C21, C22, C23⟩ := id C
    have hob := C0.ob
    refine x_aload_n (pc := 62) dX7_maps_62 rfl ?_
    refine x_aload_n (pc := 63) dX7_maps_63 rfl ?_
    refine x_gf (pc := 64) dX7_maps_64 fX7_36 (by assumption) (by omega) ?_
    refine x_aload_n (pc := 67) dX7_maps_67 rfl ?_
    refine x_gf (pc := 68) dX7_maps_68 fX7_93 (by assumption) (by omega) ?_
    refine x_il (pc := 71) dX7_maps_71 (by assumption) (by omega) rfl (by omega) ?_
    rw [hF1 N (Nat.le_refl _)]
    refine x_p1 (pc := 72) dX7_maps_72 wX7_begin iX7_begin kX7_155 (by decide) rfl (Nat.le_of_ble_eq_true rfl) (by assumption) (by omega) (m_begin C hz hN ⟨g, σ, Mo⟩ (n := frm (szs S la) (szs S lb) N)) (fun h72 e72 => ?_)
    obtain ⟨CB, fB, g0, σ0, moB⟩ := e72
    have tB := tF.of CB moB fB
    refine x_iconst (pc := 75) dX7_maps_75 ?_
    refine x_istore_n (pc := 76) dX7_maps_76 (by decide) rfl ?_
    show Ex _ _ _ _ _ _ [_, _, _, _, _, _, _, _, _, _, _] _ _ _ _
    refine k_maps2 (d := d + 1) (w := frm (szs S la) (szs S lb) N) hz hN hP hla hlb (szs_8 hS hla) (szs_8 hS hlb) hT hF1 rfl 0 (by omega) h72 M 0 g0 σ0 _ _ _ _ _ _ _ tB (by omega) ⟨fun j hj => absurd hj (Nat.not_lt_zero _), fun k i q => by unfold dnM at q; omega⟩ (fun i j hi => absurd hi (Nat.not_lt_zero _)) (fun h1 M1 m1 g1 σ1 v4 v5 v6 v7 v8 v9 v10 t1 f1 hm1 rb1 hM1 => ?_)
    obtain ⟨C, D, Mo, FA, ⟨gq, SA, SB⟩, SC⟩ := id t1
    obtain ⟨C0, C1, C2, C3, C4, C5, C6, C7, C8, C11, C12, C13, C14, C15, C16, C17, C18, C19, C20, C21, C22, C23⟩ := id C
    have hob := C0.ob
    refine x_aload_n (pc := 289) dX7_maps_289 rfl ?_
    refine x_gf (pc := 290) dX7_maps_290 fX7_36 (by assumption) (by omega) ?_
    refine x_aload_n (pc := 293) dX7_maps_293 rfl ?_
    refine x_gf (pc := 294) dX7_maps_294 fX7_93 (by assumption) (by omega) ?_
    refine x_il (pc := 297) dX7_maps_297 (by assumption) (by omega) rfl (by omega) ?_
    rw [hF1 N (Nat.le_refl _)]
    refine x_aload_n (pc := 298) dX7_maps_298 rfl ?_
    refine x_y0 (pc := 299) dX7_maps_299 wX7_reduce iX7_reduce kX7_162 (by decide) rfl (Nat.le_of_ble_eq_true rfl) (by assumption) (by omega) (m_reduceK hf C hz hN hP ⟨g1, σ1, Mo⟩ (by omega) (by omega) hM1) (fun v299 h299 e299 => ?_)
    obtain ⟨C2, f299, M2, ld2, k1, rfl, ⟨g2, σ2, mo2⟩, q2, k2, k3, rk2, ls2, in2, sp2⟩ := e299
    refine x_isub (pc := 302) dX7_maps_302 ?_
    refine x_iret (pc := 303) dX7_maps_303 rfl (by
      have hB2 := hBs lb (by omega)
      rw [← hW] at hB2
      have key := maps_K hf hP (szs_4 hS (by omega)) (szs_4 hS (by omega)) (hBs la (by omega)) hB2 rb1 rk2 sp2
      refine ⟨_, rfl, rfl, ?_, ⟨M2, ld2, k1, _, g2, σ2, F1, Qs, t1.of C2 mo2 f299⟩, (((fF.tr fB.t).tr f1)).tr f299.t⟩
      rw [if_pos (by refine ⟨by omega, by omega, by omega, by omega, hW⟩)]
      unfold hmn
      rw [← key]
      congr 1
      omega)
  · have d1 := bz_e c6
    refine x_iconst (pc := 9) dX7_maps_9 ?_
    refine x_iret (pc := 10) dX7_maps_10 rfl ⟨_, rfl, rfl, by rw [if_neg d1], ⟨M, ld, m, w, g, σ, F, Qs, t⟩, Ft.rf⟩

set_option maxRecDepth 4000 in
theorem m_bends {K : Type} [Lean.Grind.CommRing K] {f : Int → K} {G : GL} {d : Nat} {sz p N : Nat} (hf : Iot p f) (hz : 615 ≤ sz) (hN : 1 ≤ N ∧ N ≤ 8) (hP : isP p) {W : Nat → Nat} {S T : Nat → Int} (hS : inSm S) (hT : inTm T p) {Rb : Nat → Nat} {st en : Nat → Nat → Nat} {xb : Nat → Nat → Nat → Nat → K} (hBs : ∀ l, l < 8 → Bar N 4 (szs S l) (Lw (W l)) (TK f T (Lw (W l)) (szs S l) l) (Rb l) (st l) (en l) (xb l)) {hp : HP} (tx : TX hp p N W S T) {x : Int} (hx : -2147483648 ≤ x ∧ x < 2147483648) {y : Int} (hy : -2147483648 ≤ y ∧ y < 2147483648) : Ct G (d + 4) 0 0 mX7_bends [vr 92, vi x, vi y] hp sz (Vs (fun v h => v = vi (if 0 ≤ x ∧ x < 8 ∧ 0 ≤ y ∧ y < 8 ∧ W x.toNat = W y.toNat then ((hmn (Lw (W x.toNat)) (Rb x.toNat) (Rb y.toNat) (st x.toNat) (en x.toNat) (st y.toNat) (en y.toNat) : Nat) : Int) - (sm N (fun k => S (8 * x.toNat + k) * S (8 * y.toNat + k)) - sm (N - 1) (fun k => S (8 * x.toNat + (if (W x.toNat).testBit k then k + 1 else k)) * S (8 * y.toNat + (if (W x.toNat).testBit k then k else k + 1)))) else -1) ∧ TX h p N W S T ∧ Ft hp h) sz) := by
  show Ex _ _ _ _ _ _ [vr 92, vi x, vi y] _ _ _ _
  have C := tx.C
  obtain ⟨C0, C1, C2, C3, C4, C5, C6, C7, C8, C11, C12, C13, C14, C15, C16, C17, C18, C19, C20, C21, C22, C23⟩ := id C
  have hob := C0.ob
  refine x_aload_n (pc := 0) dX7_bends_0 rfl ?_
  refine x_iload_n (pc := 1) dX7_bends_1 rfl ?_
  refine x_iload_n (pc := 2) dX7_bends_2 rfl ?_
  refine x_w2 (pc := 3) dX7_bends_3 wX7_areAlong iX7_areAlong kX7_169 (by decide) rfl (Nat.le_of_ble_eq_true rfl) (by assumption) (by omega) (m_areAlong C hz hN tx.D hx hy) ?_
  refine x_if_eq (pc := 6) (tgt := 25) dX7_bends_6 (by decide) (bz_rg _) (fun c6 => ?_) (fun c6 => ?_)
  · have d1 := bz_e c6
    refine x_iconst (pc := 25) dX7_bends_25 ?_
    refine x_iret (pc := 26) dX7_bends_26 rfl (by first | exact ⟨_, rfl, rfl, by rw [if_pos d1], tx1, f1⟩ | exact ⟨_, rfl, rfl, by rw [if_neg d1], tx, Ft.rf⟩)
  · have d1 := bz_n c6
    refine x_aload_n (pc := 9) dX7_bends_9 rfl ?_
    refine x_iload_n (pc := 10) dX7_bends_10 rfl ?_
    refine x_iload_n (pc := 11) dX7_bends_11 rfl ?_
    refine x_y2 (pc := 12) dX7_bends_12 wX7_maps iX7_maps kX7_172 (by decide) rfl (Nat.le_of_ble_eq_true rfl) (by assumption) (by omega) (m_maps (d := d) hf hz hN hP hS hT hBs tx hx hy) (fun v12 h12 e12 => ?_)
    obtain ⟨rfl, tx1, f1⟩ := e12
    have hob1 := tx1.C.1.ob
    rw [if_pos d1]
    refine x_aload_n (pc := 15) dX7_bends_15 rfl ?_
    refine x_iload_n (pc := 16) dX7_bends_16 rfl ?_
    refine x_iload_n (pc := 17) dX7_bends_17 rfl ?_
    refine x_w2 (pc := 18) dX7_bends_18 wX7_form iX7_form kX7_175 (by decide) rfl (Nat.le_of_ble_eq_true rfl) hob1 (by omega) (m_form (d := d + 1) tx1.C hz hN tx1.D hS hx hy) ?_
    rw [if_pos (by omega)]
    refine x_isub (pc := 21) dX7_bends_21 ?_
    refine x_goto (pc := 22) (tgt := 26) dX7_bends_22 (by decide) ?_
    refine x_iret (pc := 26) dX7_bends_26 rfl (by first | exact ⟨_, rfl, rfl, by rw [if_pos d1], tx1, f1⟩ | exact ⟨_, rfl, rfl, by rw [if_neg d1], tx, Ft.rf⟩)

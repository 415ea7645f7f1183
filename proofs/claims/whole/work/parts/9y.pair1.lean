/-! the class's pairing -/
def csp (u1 v1 u2 v2 : Nat → Int) (i j : Nat) : Int := 2 * max ((u1 i - u2 j).natAbs : Int) ((v1 i - v2 j).natAbs : Int)
def rg8 (u v : Nat → Int) (c : Nat) : Prop := ∀ i, i < c → 0 ≤ u i ∧ u i < 8 ∧ 0 ≤ v i ∧ v i < 8
theorem csp_rg {u1 v1 u2 v2 : Nat → Int} {c1 c2 i j : Nat} (h1 : rg8 u1 v1 c1) (h2 : rg8 u2 v2 c2) (hi : i < c1) (hj : j < c2) : 0 ≤ csp u1 v1 u2 v2 i j ∧ csp u1 v1 u2 v2 i j < 16 := by
  have a := h1 i hi
  have b := h2 j hj
  unfold csp
  omega
def PrA (h : HP) (po pt rf wt : Nat → Int) : Prop := fld h 82 1 0 (vr 83) ∧ fld h 82 1 1 (vr 84) ∧ fld h 82 1 2 (vr 85) ∧ fld h 82 1 3 (vr 86) ∧ h 83 = ar 0 32 po ∧ h 84 = ar 0 32 pt ∧ h 85 = ar 0 32 rf ∧ h 86 = ar 0 32 wt
theorem PrA.ob {h : HP} {po pt rf wt : Nat → Int} (p : PrA h po pt rf wt) : isob h 82 1 := p.1.ob
theorem PrA.keep {h h' : HP} {po pt rf wt : Nat → Int} (p : PrA h po pt rf wt) (e : ∀ x, 82 ≤ x → x ≤ 86 → h' x = h x) : PrA h' po pt rf wt := by
  obtain ⟨p1, p2, p3, p4, p5, p6, p7, p8⟩ := p
  exact ⟨p1.keep (e _ (by omega) (by omega)), p2.keep (e _ (by omega) (by omega)), p3.keep (e _ (by omega) (by omega)), p4.keep (e _ (by omega) (by omega)), (e _ (by omega) (by omega)).trans p5, (e _ (by omega) (by omega)).trans p6, (e _ (by omega) (by omega)).trans p7, (e _ (by omega) (by omega)).trans p8⟩
theorem PrA.upo {h : HP} {po pt rf wt q : Nat → Int} (p : PrA h po pt rf wt) : PrA (up h 83 (ar 0 32 q)) q pt rf wt := by
  obtain ⟨p1, p2, p3, p4, p5, p6, p7, p8⟩ := p
  exact ⟨p1.keep (up_n _ _ (by omega)), p2.keep (up_n _ _ (by omega)), p3.keep (up_n _ _ (by omega)), p4.keep (up_n _ _ (by omega)), up_s _ _ _, (up_n _ _ (by omega)).trans p6, (up_n _ _ (by omega)).trans p7, (up_n _ _ (by omega)).trans p8⟩
theorem PrA.upt {h : HP} {po pt rf wt q : Nat → Int} (p : PrA h po pt rf wt) : PrA (up h 84 (ar 0 32 q)) po q rf wt := by
  obtain ⟨p1, p2, p3, p4, p5, p6, p7, p8⟩ := p
  exact ⟨p1.keep (up_n _ _ (by omega)), p2.keep (up_n _ _ (by omega)), p3.keep (up_n _ _ (by omega)), p4.keep (up_n _ _ (by omega)), (up_n _ _ (by omega)).trans p5, up_s _ _ _, (up_n _ _ (by omega)).trans p7, (up_n _ _ (by omega)).trans p8⟩
theorem PrA.urf {h : HP} {po pt rf wt q : Nat → Int} (p : PrA h po pt rf wt) : PrA (up h 85 (ar 0 32 q)) po pt q wt := by
  obtain ⟨p1, p2, p3, p4, p5, p6, p7, p8⟩ := p
  exact ⟨p1.keep (up_n _ _ (by omega)), p2.keep (up_n _ _ (by omega)), p3.keep (up_n _ _ (by omega)), p4.keep (up_n _ _ (by omega)), (up_n _ _ (by omega)).trans p5, (up_n _ _ (by omega)).trans p6, up_s _ _ _, (up_n _ _ (by omega)).trans p8⟩
theorem PrA.uwt {h : HP} {po pt rf wt q : Nat → Int} (p : PrA h po pt rf wt) : PrA (up h 86 (ar 0 32 q)) po pt rf q := by
  obtain ⟨p1, p2, p3, p4, p5, p6, p7, p8⟩ := p
  exact ⟨p1.keep (up_n _ _ (by omega)), p2.keep (up_n _ _ (by omega)), p3.keep (up_n _ _ (by omega)), p4.keep (up_n _ _ (by omega)), (up_n _ _ (by omega)).trans p5, (up_n _ _ (by omega)).trans p6, (up_n _ _ (by omega)).trans p7, up_s _ _ _⟩

set_option maxRecDepth 4000 in
theorem t_cost {G : GL} {d : Nat} {hp : HP} {sz : Nat} {b1 b2 : Nat} (hb1 : b1 + 2 < sz) (hb2 : b2 + 2 < sz) {u1 v1 u2 v2 : Nat → Int} {c1 c2 : Nat} (S1 : SpA hp b1 u1 v1 c1) (S2 : SpA hp b2 u2 v2 c2) (hc1 : c1 ≤ 32) (hc2 : c2 ≤ 32) (r1 : rg8 u1 v1 c1) (r2 : rg8 u2 v2 c2) {i j : Nat} (hi : i < c1) (hj : j < c2) : Ct G (d + 1) 0 0 mX1_cost [vr b1, vi i, vr b2, vi j] hp sz (Rd (some (vi (csp u1 v1 u2 v2 i j))) hp sz) := by
  show Ex _ _ _ _ _ _ [vr b1, vi i, vr b2, vi j, vu, vu] _ _ _ _
  obtain ⟨A1, A2, A3, A4, A5⟩ := id S1
  obtain ⟨B1, B2, B3, B4, B5⟩ := id S2
  have q1 := r1 i hi
  have q2 := r2 j hj
  refine x_aload_n (pc := 0) dX1_cost_0 rfl ?_
  refine x_gn (pc := 1) dX1_cost_1 fX1_43 (by assumption) (by omega) ?_
  refine x_iload_n (pc := 4) dX1_cost_4 rfl ?_
  refine x_il (pc := 5) dX1_cost_5 (by assumption) (by omega) rfl (by omega) ?_
  refine x_aload_n (pc := 6) dX1_cost_6 rfl ?_
  refine x_gn (pc := 7) dX1_cost_7 fX1_43 (by assumption) (by omega) ?_
  refine x_iload_n (pc := 10) dX1_cost_10 rfl ?_
  refine x_il (pc := 11) dX1_cost_11 (by assumption) (by omega) rfl (by omega) ?_
  refine x_isub (pc := 12) dX1_cost_12 ?_
  refine x_t1 (pc := 13) dX1_cost_13 wJ9_abs_0f7a4 sJ9_abs_0f7a4 kX1_58 (by decide) rfl (Nat.le_of_ble_eq_true rfl) (t_abs (by omega)) ?_
  refine x_istore (pc := 16) dX1_cost_16 (by decide) rfl ?_
  show Ex _ _ _ _ _ _ [_, _, _, _, _, _] _ _ _ _
  refine x_aload_n (pc := 18) dX1_cost_18 rfl ?_
  refine x_gn (pc := 19) dX1_cost_19 fX1_40 (by assumption) (by omega) ?_
  refine x_iload_n (pc := 22) dX1_cost_22 rfl ?_
  refine x_il (pc := 23) dX1_cost_23 (by assumption) (by omega) rfl (by omega) ?_
  refine x_aload_n (pc := 24) dX1_cost_24 rfl ?_
  refine x_gn (pc := 25) dX1_cost_25 fX1_40 (by assumption) (by omega) ?_
  refine x_iload_n (pc := 28) dX1_cost_28 rfl ?_
  refine x_il (pc := 29) dX1_cost_29 (by assumption) (by omega) rfl (by omega) ?_
  refine x_isub (pc := 30) dX1_cost_30 ?_
  refine x_t1 (pc := 31) dX1_cost_31 wJ9_abs_0f7a4 sJ9_abs_0f7a4 kX1_58 (by decide) rfl (Nat.le_of_ble_eq_true rfl) (t_abs (by omega)) ?_
  refine x_istore (pc := 34) dX1_cost_34 (by decide) rfl ?_
  show Ex _ _ _ _ _ _ [_, _, _, _, _, _] _ _ _ _
  refine x_iconst (pc := 36) dX1_cost_36 ?_
  refine x_iload (pc := 37) dX1_cost_37 rfl ?_
  refine x_iload (pc := 39) dX1_cost_39 rfl ?_
  refine x_t2 (pc := 41) dX1_cost_41 wJ9_max_7cf53 sJ9_max_7cf53 kX1_64 (by decide) rfl (Nat.le_of_ble_eq_true rfl) (t_max (by omega) (by omega)) ?_
  refine x_imul (pc := 44) dX1_cost_44 ?_
  refine x_iret (pc := 45) dX1_cost_45 rfl ⟨rfl, rfl, rfl⟩

theorem k_change {G : GL} {d : Nat} {sz m n kn first : Nat} (hz : 92 ≤ sz) (hm : m ≤ 32) (hn : n ≤ 32) {adj : Nat → Nat → Prop} {S : Nat → Prop} (hS0 : ¬ S first) (hf : first < m) {W : Nat → Nat} (hW0 : W 0 = first) (hW : ∀ j, j < kn → W j < m) (hWi : ∀ j j', j < kn → j' < kn → W j = W j' → j = j') {po0 rf wt : Nat → Int} (h5 : ∀ j, 1 ≤ j → j < kn → S (W j) ∧ ∃ o j' : Nat, o < n ∧ po0 (W j) = (o : Int) ∧ j' < j ∧ rf o = (W j' : Int) ∧ adj (W j') o) {last : Int} {Q : Option AV → HP → Nat → Prop} : ∀ j, ∀ (c o : Nat) (hp : HP) (po pt : Nat → Int) (v4 v5 : AV), c + j < 32 → j < kn → o < n → rf o = (W j : Int) → adj (W j) o → MX adj m n S po pt o → (∀ j', j' ≤ j → po (W j') = po0 (W j')) → PrA hp po pt rf wt → (∀ h po1 pt1, PrA h po1 pt1 rf wt → Fr hp h 83 84 → Mt adj m n (fun i => S i ∨ i = first) po1 pt1 → Q none h sz) → Ex G d 0 0 mX1_change 4 [vr 82, vi last, vi o, vi c, v4, v5] [] hp sz Q := by
  intro j
  induction j using Nat.strongRecOn with
  | _ j ih =>
  intro c o hp po pt v4 v5 hcj hj ho hrf ha mx hpo pa hq
  have hWj := hW j hj
  obtain ⟨P1, P2, P3, P4, P5, P6, P7, P8⟩ := id pa
  have hob := pa.ob
  refine x_iload_n (pc := 4) dX1_change_4 rfl ?_
  refine x_bipush (pc := 5) dX1_change_5 (by decide) ?_
  refine x_icmp_ge (pc := 7) (tgt := 67) dX1_change_7 (by decide) (by omega) (by omega) (fun c7 => ?_) (fun c7 => ?_)
  · exact absurd c7 (by omega)
  · refine x_iload_n (pc := 10) dX1_change_10 rfl ?_
    refine x_iconst (pc := 11) dX1_change_11 ?_
    refine x_icmp_eq (pc := 12) (tgt := 67) dX1_change_12 (by decide) (by omega) (by omega) (fun c12 => ?_) (fun c12 => ?_)
    · exact absurd c12 (by omega)
    · refine x_aload_n (pc := 15) dX1_change_15 rfl ?_
      refine x_gf (pc := 16) dX1_change_16 fX1_18 (by assumption) (by omega) ?_
      refine x_iload_n (pc := 19) dX1_change_19 rfl ?_
      refine x_il (pc := 20) dX1_change_20 (by assumption) (by omega) rfl (by omega) ?_
      rw [hrf]
      refine x_iconst (pc := 21) dX1_change_21 ?_
      refine x_icmp_eq (pc := 22) (tgt := 67) dX1_change_22 (by decide) (by omega) (by omega) (fun c22 => ?_) (fun c22 => ?_)
      · exact absurd c22 (by omega)
      · refine x_aload_n (pc := 25) dX1_change_25 rfl ?_
        refine x_gf (pc := 26) dX1_change_26 fX1_18 (by assumption) (by omega) ?_
        refine x_iload_n (pc := 29) dX1_change_29 rfl ?_
        refine x_il (pc := 30) dX1_change_30 (by assumption) (by omega) rfl (by omega) ?_
        rw [hrf]
        refine x_istore (pc := 31) dX1_change_31 (by decide) rfl ?_
        show Ex _ _ _ _ _ _ [_, _, _, _, _, _] _ _ _ _
        refine x_aload_n (pc := 33) dX1_change_33 rfl ?_
        refine x_gf (pc := 34) dX1_change_34 fX1_9 (by assumption) (by omega) ?_
        refine x_iload (pc := 37) dX1_change_37 rfl ?_
        refine x_il (pc := 39) dX1_change_39 (by assumption) (by omega) rfl (by omega) ?_
        refine x_istore (pc := 40) dX1_change_40 (by decide) rfl ?_
        show Ex _ _ _ _ _ _ [_, _, _, _, _, _] _ _ _ _
        refine x_aload_n (pc := 42) dX1_change_42 rfl ?_
        refine x_gf (pc := 43) dX1_change_43 fX1_9 (by assumption) (by omega) ?_
        refine x_iload (pc := 46) dX1_change_46 rfl ?_
        refine x_iload_n (pc := 48) dX1_change_48 rfl ?_
        refine x_is (pc := 49) dX1_change_49 (by assumption) (by omega) rfl (by omega) ?_
        have P6b := (up_n (f := hp) (a := 83) (ar 0 32 (up po (W j) (o : Int))) (show 84 ≠ 83 by omega)).trans P6
        have P2b := P2.up (b := 83) (x := ar 0 32 (up po (W j) (o : Int))) (by omega)
        refine x_aload_n (pc := 50) dX1_change_50 rfl ?_
        refine x_gf (pc := 51) dX1_change_51 fX1_15 (by assumption) (by omega) ?_
        refine x_iload_n (pc := 54) dX1_change_54 rfl ?_
        refine x_iload (pc := 55) dX1_change_55 rfl ?_
        refine x_is (pc := 57) dX1_change_57 (by assumption) (by omega) rfl (by omega) ?_
        refine x_iload (pc := 58) dX1_change_58 rfl ?_
        refine x_istore_n (pc := 60) dX1_change_60 (by decide) rfl ?_
        show Ex _ _ _ _ _ _ [_, _, _, _, _, _] _ _ _ _
        refine x_iinc (pc := 61) dX1_change_61 rfl (by decide) rfl ?_
        show Ex _ _ _ _ _ _ [_, _, _, _, _, _] _ _ _ _
        refine x_goto (pc := 64) (tgt := 4) dX1_change_64 (by decide) ?_
        have pa2 := (pa.upo (q := up po (W j) (o : Int))).upt (q := up pt o (W j : Int))
        by_cases j0 : j = 0
        · subst j0
          rw [show po (W 0) = -1 from mx.2.1 _ (by omega) (by rw [hW0]; exact hS0)]
          refine x_iload_n (pc := 4) dX1_change_4 rfl ?_
          refine x_bipush (pc := 5) dX1_change_5 (by decide) ?_
          refine x_icmp_ge (pc := 7) (tgt := 67) dX1_change_7 (by decide) (by omega) (by omega) (fun c7 => ?_) (fun c7 => ?_)
          · refine x_vret (pc := 67) dX1_change_67 rfl (hq _ _ _ pa2 ((Fr.rf.up (by omega) (by omega)).up (by omega) (by omega)) (hW0 ▸ mx.fin ho (by rw [hW0]; exact hf) (by rw [hW0]; exact hS0) ha))
          · refine x_iload_n (pc := 10) dX1_change_10 rfl ?_
            refine x_iconst (pc := 11) dX1_change_11 ?_
            refine x_icmp_eq (pc := 12) (tgt := 67) dX1_change_12 (by decide) (by omega) (by omega) (fun c12 => ?_) (fun c12 => ?_)
            · refine x_vret (pc := 67) dX1_change_67 rfl (hq _ _ _ pa2 ((Fr.rf.up (by omega) (by omega)).up (by omega) (by omega)) (hW0 ▸ mx.fin ho (by rw [hW0]; exact hf) (by rw [hW0]; exact hS0) ha))
            · exact absurd c12 (by omega)
        · obtain ⟨sW, o1, j1, a1, a2, a3, a4, a5⟩ := h5 j (by omega) hj
          have a2' : po (W j) = (o1 : Int) := (hpo j (Nat.le_refl _)).trans a2
          rw [a2']
          obtain ⟨mx2, -⟩ := mx.step ho hWj sW ha a2'
          exact ih j1 a3 (c + 1) o1 _ _ _ _ _ (by omega) (by omega) a1 a4 a5 mx2 (fun j' hj' => (up_n _ _ (fun e => by have := hWi j' j (by omega) hj e; omega)).trans (hpo j' (by omega))) pa2 (fun h po1 pt1 g1 g2 g3 => hq h po1 pt1 g1 (((Fr.rf.up (by omega) (by omega)).up (by omega) (by omega)).tr g2) g3)

set_option maxRecDepth 4000 in
theorem t_change {G : GL} {d : Nat} {hp : HP} {sz : Nat} {m n kn first : Nat} (hz : 92 ≤ sz) (hm : m ≤ 32) (hn : n ≤ 32) {adj : Nat → Nat → Prop} {S : Nat → Prop} (hS0 : ¬ S first) (hf : first < m) {W : Nat → Nat} (hW0 : W 0 = first) (hW : ∀ j, j < kn → W j < m) (hWi : ∀ j j', j < kn → j' < kn → W j = W j' → j = j') {po0 rf wt : Nat → Int} (h5 : ∀ j, 1 ≤ j → j < kn → S (W j) ∧ ∃ o j' : Nat, o < n ∧ po0 (W j) = (o : Int) ∧ j' < j ∧ rf o = (W j' : Int) ∧ adj (W j') o) {po pt : Nat → Int} {o j : Nat} (hj : j < kn) (hk : kn ≤ 32) (ho : o < n) (hrf : rf o = (W j : Int)) (ha : adj (W j) o) (mx : MX adj m n S po pt o) (hpo : ∀ j', j' ≤ j → po (W j') = po0 (W j')) (pa : PrA hp po pt rf wt) : Ct G d 0 0 mX1_change [vr 82, vi o] hp sz (Vd (fun h => ∃ po1 pt1, PrA h po1 pt1 rf wt ∧ Fr hp h 83 84 ∧ Mt adj m n (fun i => S i ∨ i = first) po1 pt1) sz) := by
  show Ex _ _ _ _ _ _ [vr 82, vi o, vu, vu, vu, vu] _ _ _ _
  refine x_iload_n (pc := 0) dX1_change_0 rfl ?_
  refine x_istore_n (pc := 1) dX1_change_1 (by decide) rfl ?_
  show Ex _ _ _ _ _ _ [_, _, _, _, _, _] _ _ _ _
  refine x_iconst (pc := 2) dX1_change_2 ?_
  refine x_istore_n (pc := 3) dX1_change_3 (by decide) rfl ?_
  show Ex _ _ _ _ _ _ [_, _, _, _, _, _] _ _ _ _
  exact k_change hz hm hn hS0 hf hW0 hW hWi h5 j 0 o hp po pt _ _ (by omega) hj ho hrf ha mx hpo pa (fun h po1 pt1 g1 g2 g3 => ⟨rfl, rfl, po1, pt1, g1, g2, g3⟩)

/-! the law from its beginning -/
def clv (G : GL) (k : Nat) : Int := if k < (G.2.2.2.2.2 0).1 then (G.2.2.2.2.2 0).2 k else 0
theorem clv_rg {G : GL} (hfr : ∀ j, -2147483648 ≤ (G.2.2.2.2.2 0).2 j ∧ (G.2.2.2.2.2 0).2 j < 2147483648) (k : Nat) : -2147483648 ≤ clv G k ∧ clv G k < 2147483648 := by
  unfold clv
  split
  · exact hfr k
  · decide

theorem t_cell {G : GL} {d : Nat} {hp : HP} {sz : Nat} (hL : (G.2.2.2.2.2 0).1 ≤ 3074) {k : Nat} (hk : k < 2) : Ct G d 0 0 mL_cell [vr 1000000, vi k] hp sz (Rd (some (vi (clv G k))) hp sz) := by
  show Ex _ _ _ _ _ _ [vr 1000000, vi k] _ _ _ _
  refine Ex.glob (fun hgl => ?_)
  refine x_iload_n (pc := 0) dL_cell_0 rfl ?_
  refine x_aload_n (pc := 1) dL_cell_1 rfl ?_
  refine x_alenX (pc := 2) (j := 0) dL_cell_2 (by omega) (hgl 0 (by omega)) ?_
  refine x_icmp_ge (pc := 3) (tgt := 12) dL_cell_3 (by decide) (by omega) (by omega) (fun c3 => ?_) (fun c3 => ?_)
  · refine x_iconst (pc := 12) dL_cell_12 ?_
    refine x_iret (pc := 13) dL_cell_13 rfl ⟨by unfold clv; first | rw [if_pos (by omega)] | rw [if_neg (by omega)], rfl, rfl⟩
  · refine x_aload_n (pc := 6) dL_cell_6 rfl ?_
    refine x_iload_n (pc := 7) dL_cell_7 rfl ?_
    refine x_ialdX (pc := 8) (j := 0) dL_cell_8 (by omega) (hgl 0 (by omega)) (by omega) (by omega) ?_
    rw [Int.toNat_natCast]
    refine x_goto (pc := 9) (tgt := 13) dL_cell_9 (by decide) ?_
    refine x_iret (pc := 13) dL_cell_13 rfl ⟨by unfold clv; first | rw [if_pos (by omega)] | rw [if_neg (by omega)], rfl, rfl⟩

set_option maxRecDepth 4000 in
theorem t_law {G : GL} {d : Nat} {hp : HP} (hL : (G.2.2.2.2.2 0).1 ≤ 3074) (hfr : ∀ j, -2147483648 ≤ (G.2.2.2.2.2 0).2 j ∧ (G.2.2.2.2.2 0).2 j < 2147483648) (hG1 : (G.2.2.2.2.2 1).1 = 6 ∧ ∀ i, i < 6 → (G.2.2.2.2.2 1).2 i = prm i) (hG2 : (G.2.2.2.2.2 2).1 = 6 ∧ ∀ i, i < 6 → (G.2.2.2.2.2 2).2 i = prm i) {Q : Option AV → HP → Nat → Prop} (hq : ∀ h, Q (some (vi 1)) h 615) : Ex G (d + 41) 615 39854 mL_law 0 [vr 1000000, vu, vu, vu] [] hp 0 Q := by
  obtain ⟨p, ep, hP⟩ := gk_P (clv G 0)
  obtain ⟨N, eN, hN⟩ := nN_ex (clv G 1)
  refine x_new (pc := 0) (c := 6) (n := 10) (rc := 614) (rs := 39844) dL_law_0 nL_7 (by omega) ?_
  refine x_dupr (pc := 3) dL_law_3 ?_
  refine x_aload_n (pc := 4) dL_law_4 rfl ?_
  refine x_iconst (pc := 5) dL_law_5 ?_
  refine x_t2 (pc := 6) dL_law_6 wL_cell sL_cell kL_9 (by decide) rfl (Nat.le_of_ble_eq_true rfl) (t_cell (d := d + 40) hL (k := 0) (by decide)) ?_
  refine x_aload_n (pc := 9) dL_law_9 rfl ?_
  refine x_iconst (pc := 10) dL_law_10 ?_
  refine x_t2 (pc := 11) dL_law_11 wL_cell sL_cell kL_9 (by decide) rfl (Nat.le_of_ble_eq_true rfl) (t_cell (d := d + 40) hL (k := 1) (by decide)) ?_
  refine Ex.glob (fun hgl => ?_)
  have hX := hgl 1 (by omega)
  rw [hG1.1] at hX
  refine x_callI (pc := 14) (a := 0) (as := [vi (clv G 0), vi (clv G 1)]) (st := [vr 0]) (d' := d + 3) (rc := 523) (rs := 38060) dL_law_14 wX6_init rfl rfl iX6_init kL_15 rfl (by decide) rfl (Nat.le_of_ble_eq_true rfl) (by omega) (n_SpanLoom (d := d) (p := p) (N := N) ⟨_, up_s _ _ _⟩ hX hG1.2 (clv_rg hfr 0) (clv_rg hfr 1) hP ep eN) (fun r14 h14 z14 q14 => ?_)
  obtain ⟨e1, e2, c14⟩ := q14
  subst e1
  subst e2
  show Ex _ _ _ _ _ _ _ [vr 0] h14 92 _
  refine x_astore_n (pc := 17) dL_law_17 (by decide) rfl ?_
  show Ex _ _ _ _ _ _ [_, _, _, _] _ _ _ _
  refine x_new (pc := 18) (c := 7) (n := 24) (rc := 522) (rs := 38036) dL_law_18 nL_18 (by omega) ?_
  refine x_dupr (pc := 21) dL_law_21 ?_
  refine x_aload_n (pc := 22) dL_law_22 rfl ?_
  refine x_iconst (pc := 23) dL_law_23 ?_
  refine x_t2 (pc := 24) dL_law_24 wL_cell sL_cell kL_9 (by decide) rfl (Nat.le_of_ble_eq_true rfl) (t_cell (d := d + 40) hL (k := 0) (by decide)) ?_
  refine x_aload_n (pc := 27) dL_law_27 rfl ?_
  refine x_iconst (pc := 28) dL_law_28 ?_
  refine x_t2 (pc := 29) dL_law_29 wL_cell sL_cell kL_9 (by decide) rfl (Nat.le_of_ble_eq_true rfl) (t_cell (d := d + 40) hL (k := 1) (by decide)) ?_
  refine x_callI (pc := 32) (a := 92) (as := [vi (clv G 0), vi (clv G 1)]) (st := [vr 92]) (d' := d + 1) (rc := 0) (rs := 0) dL_law_32 wX7_init rfl rfl iX7_init kL_20 rfl (by decide) rfl (Nat.le_of_ble_eq_true rfl) (by omega) (n_Model (d := d) (p := p) (N := N) ⟨_, up_s _ _ _⟩ ⟨_, up_s _ _ _, rfl⟩ ⟨_, up_s _ _ _, rfl⟩ hG2.1 hG2.2 (clv_rg hfr 0) (clv_rg hfr 1) ep eN) (fun r32 h32 z32 q32 => ?_)
  obtain ⟨e1, e2, e32, m32⟩ := q32
  subst e1
  subst e2
  have c32 : CLI p N (fun _ _ => 0) (fun _ _ => 0) (fun _ => 0) h32 := c14.keep (fun x hx => (e32 x (by omega)).trans (up_n _ _ (by omega)))
  have I0 : INV p N h32 := ⟨hP, hN, fun _ _ => 0, fun _ _ => 0, fun _ => 0, fun _ => 0, fun _ => 0, c32, m32, ⟨fun _ _ _ _ => rfl, fun _ _ _ _ => rfl⟩, fun _ _ => ⟨by show (0 : Int) ≤ 0; decide, by show (0 : Int) ≤ 4; decide⟩, fun _ _ => ⟨by show (0 : Int) ≤ 0; decide, by show (0 : Int) < p; have := hP.le; omega⟩, fun _ _ => ⟨fun _ _ _ => rfl, fun _ _ _ => rfl⟩⟩
  show Ex _ _ _ _ _ _ _ [vr 92] h32 615 _
  refine x_astore_n (pc := 35) dL_law_35 (by decide) rfl ?_
  show Ex _ _ _ _ _ _ [_, _, _, _] _ _ _ _
  refine x_iconst (pc := 36) dL_law_36 ?_
  refine x_istore_n (pc := 37) dL_law_37 (by decide) rfl ?_
  show Ex _ _ _ _ _ _ [_, _, _, _] _ _ _ _
  exact k_law hL hfr hq 0 (Nat.zero_le _) h32 I0

/-- one pivot: row r comes to place k, is scaled, and clears its column -/
def elm (p w c : Nat) (M : Nat → Nat → Int) (r k : Nat) (x : Int) (pl : Nat) : Nat → Nat → Int := clr p w c (scl p w (swp M r k) k x pl) k pl
theorem inP.swp {M : Nat → Nat → Int} {p r k : Nat} (h : inP M p) (hr : r < 4) (hk : k < 4) : inP (swp M r k) p := by
  intro i j hi hj
  unfold _root_.Jvm.Pilot.@@N@@.swp
  split
  · exact h k j hk hj
  · split
    · exact h r j hr hj
    · exact h i j hi hj
theorem inP.scl {M : Nat → Nat → Int} {p w k pl : Nat} {x : Int} (h : inP M p) (hp : 0 < p) : inP (scl p w M k x pl) p := by
  intro i j hi hj
  unfold _root_.Jvm.Pilot.@@N@@.scl
  split
  · exact emod_rg hp
  · exact h i j hi hj
theorem inP.clr {M : Nat → Nat → Int} {p w c k pl : Nat} (h : inP M p) (hp : 0 < p) : inP (clr p w c M k pl) p := by
  intro i j hi hj
  unfold _root_.Jvm.Pilot.@@N@@.clr
  split
  · exact emod_rg hp
  · exact h i j hi hj

theorem l_bring {G : GL} {d : Nat} {sz : Nat} {b p c w : Nat} {Q : Option AV → HP → Nat → Prop} (hz : b + 6 < sz) (hc : c ≤ 4) (hw : w ≤ 8) (hP : isP p) (J : Nat → Nat → (Nat → Nat → Int) → (Nat → Int) → Prop) (hsk : ∀ pl k M hd, pl < w → k < c → inP M p → J pl k M hd → (∀ i, k ≤ i → i < c → M i pl = 0) → J (pl + 1) k M hd) (hpv : ∀ pl k M hd (r x : Nat), pl < w → k < c → inP M p → J pl k M hd → k ≤ r → r < c → M r pl ≠ 0 → (∀ i, k ≤ i → i < r → M i pl = 0) → (x : Int) < p → ((x : Int) * M r pl) % p = 1 → J (pl + 1) (k + 1) (elm p w c M r k x pl) (up hd pl (k : Int))) : ∀ pl, pl ≤ w → ∀ (hp : HP) (M : Nat → Nat → Int) (hd : Nat → Int) (k : Nat) (v3 : AV) (g : Nat → Option Nat) (σ : Nat → Nat), k ≤ c → RowsB hp b p M hd c w g σ → inP M p → J pl k M hd → (∀ h M1 hd1 k1 pl1, Fr hp h b (b + 6) → RowsA h b p M1 hd1 k1 w → inP M1 p → J pl1 k1 M1 hd1 → (pl1 = w ∨ k1 = c) → Q none h sz) → Ex G (d + 1) 0 0 mX3_bringToLeast 4 [vr b, vi k, vi pl, v3] [] hp sz Q := by
  refine down (fun hp M hd k v3 g σ hk R hM hJ hq => ?_) (fun pl hpl ih hp M hd k v3 g σ hk R hM hJ hq => ?_)
  · obtain ⟨R1, R2, R3, R4, R5, R6, R7, R8, R9⟩ := id R
    have hob := R1.ob
    refine x_iload_n (pc := 4) dX3_bringToLeast_4 rfl ?_
    refine x_aload_n (pc := 5) dX3_bringToLeast_5 rfl ?_
    refine x_gf (pc := 6) dX3_bringToLeast_6 fX3_33 (by assumption) (by omega) ?_
    refine x_icmp_ge (pc := 9) (tgt := 78) dX3_bringToLeast_9 (by decide) (by omega) (by omega) (fun c9 => ?_) (fun c9 => ?_)
    · refine x_aload_n (pc := 78) dX3_bringToLeast_78 rfl ?_
      refine x_iload_n (pc := 79) dX3_bringToLeast_79 rfl ?_
      refine x_pfi (pc := 80) dX3_bringToLeast_80 pX3_30 hob (by omega) (fun hp80 hf80 => ?_)
      have Rz := R.pfc hf80
      refine x_vret (pc := 83) dX3_bringToLeast_83 rfl (hq hp80 M hd k w (Fr.rf.pf hf80 (by omega) (by omega)) ⟨g, σ, Rz⟩ hM hJ (Or.inl rfl))
    · exact absurd c9 (by omega)
  · obtain ⟨R1, R2, R3, R4, R5, R6, R7, R8, R9⟩ := id R
    have hob := R1.ob
    refine x_iload_n (pc := 4) dX3_bringToLeast_4 rfl ?_
    refine x_aload_n (pc := 5) dX3_bringToLeast_5 rfl ?_
    refine x_gf (pc := 6) dX3_bringToLeast_6 fX3_33 (by assumption) (by omega) ?_
    refine x_icmp_ge (pc := 9) (tgt := 78) dX3_bringToLeast_9 (by decide) (by omega) (by omega) (fun c9 => ?_) (fun c9 => ?_)
    · exact absurd c9 (by omega)
    · refine x_iload_n (pc := 12) dX3_bringToLeast_12 rfl ?_
      refine x_aload_n (pc := 13) dX3_bringToLeast_13 rfl ?_
      refine x_gf (pc := 14) dX3_bringToLeast_14 fX3_30 (by assumption) (by omega) ?_
      refine x_icmp_ge (pc := 17) (tgt := 78) dX3_bringToLeast_17 (by decide) (by omega) (by omega) (fun c17 => ?_) (fun c17 => ?_)
      · have hk9 : k = c := by omega
        refine x_aload_n (pc := 78) dX3_bringToLeast_78 rfl ?_
        refine x_iload_n (pc := 79) dX3_bringToLeast_79 rfl ?_
        refine x_pfi (pc := 80) dX3_bringToLeast_80 pX3_30 hob (by omega) (fun hp80 hf80 => ?_)
        have Rz := R.pfc hf80
        refine x_vret (pc := 83) dX3_bringToLeast_83 rfl (hq hp80 M hd k pl (Fr.rf.pf hf80 (by omega) (by omega)) ⟨g, σ, Rz⟩ hM hJ (Or.inr hk9))
      · refine x_aload_n (pc := 20) dX3_bringToLeast_20 rfl ?_
        refine x_iload_n (pc := 21) dX3_bringToLeast_21 rfl ?_
        refine x_iload_n (pc := 22) dX3_bringToLeast_22 rfl ?_
        refine x_y2 (pc := 23) dX3_bringToLeast_23 wX3_rowWithNumber iX3_rowWithNumber kX3_46 (by decide) rfl (Nat.le_of_ble_eq_true rfl) (by assumption) (by omega) (t_rwn ⟨g, σ, R⟩ hz hc (by omega) hM hP.le.2 (by omega)) (fun v23 h23 e23 => ?_)
        obtain ⟨rfl, x, rfl, hv⟩ := e23
        refine x_istore_n (pc := 26) dX3_bringToLeast_26 (by decide) rfl ?_
        show Ex _ _ _ _ _ _ [_, _, _, _] _ _ _ _
        refine x_iload_n (pc := 27) dX3_bringToLeast_27 rfl ?_
        refine x_iconst (pc := 28) dX3_bringToLeast_28 ?_
        refine x_icmp_eq (pc := 29) (tgt := 72) dX3_bringToLeast_29 (by decide) (by rcases hv with ⟨_, h, _, h2, _⟩ | ⟨h, _⟩ <;> omega) (by omega) (fun c29 => ?_) (fun c29 => ?_)
        · refine x_iinc (pc := 72) dX3_bringToLeast_72 rfl (by decide) rfl ?_
          show Ex _ _ _ _ _ _ [_, _, _, _] _ _ _ _
          refine x_goto (pc := 75) (tgt := 4) dX3_bringToLeast_75 (by decide) ?_
          first
            | exact ih _ _ _ _ _ g σ (by omega) R hM (hsk pl k M hd (by omega) (by omega) hM hJ (by rcases hv with ⟨r, h, _⟩ | ⟨_, h⟩; exact absurd h (by omega); exact h)) hq
            | exact ih _ _ _ (k + 1) _ g3 σ3 (by omega) RR hM4 (hpv pl k M hd r xi (by omega) (by omega) hM hJ hr1 hr2 hr3 hr4 hx1 hx2) (fun h M1 hd1 k1 p1 f1 => hq h M1 hd1 k1 p1 (FF.tr f1))
        · obtain ⟨r, rfl, hr1, hr2, hr3, hr4⟩ : ∃ r : Nat, x = (r : Int) ∧ k ≤ r ∧ r < c ∧ M r pl ≠ 0 ∧ ∀ i, k ≤ i → i < r → M i pl = 0 := by
            rcases hv with hv | hv
            · exact hv
            · exact absurd hv.1 (by omega)
          refine x_aload_n (pc := 32) dX3_bringToLeast_32 rfl ?_
          refine x_iload_n (pc := 33) dX3_bringToLeast_33 rfl ?_
          refine x_iload_n (pc := 34) dX3_bringToLeast_34 rfl ?_
          refine x_p2 (pc := 35) dX3_bringToLeast_35 wX3_swap iX3_swap kX3_49 (by decide) rfl (Nat.le_of_ble_eq_true rfl) (by assumption) (by omega) (t_swap (i := r) (k := k) ⟨g, σ, R⟩ hz (by omega) (by omega)) (fun h35 e35 => ?_)
          obtain ⟨f35, R35⟩ := e35
          have hM2 := hM.swp (r := r) (k := k) (by omega) (by omega)
          have hob35 := R35.ob
          obtain ⟨g2, σ2, R35⟩ := R35
          obtain ⟨R1, R2, R3, R4, R5, R6, R7, R8, R9⟩ := id R35
          obtain ⟨a1, a2, a3, a4⟩ := R35.lt (i := k) (by omega)
          have hsw : swp M r k k pl = M r pl := by
            unfold swp
            by_cases h : k = r
            · rw [if_pos h, h]
            · rw [if_neg h, if_pos rfl]
          refine x_aload_n (pc := 38) dX3_bringToLeast_38 rfl ?_
          refine x_iload_n (pc := 39) dX3_bringToLeast_39 rfl ?_
          refine x_aload_n (pc := 40) dX3_bringToLeast_40 rfl ?_
          refine x_aload_n (pc := 41) dX3_bringToLeast_41 rfl ?_
          refine x_gf (pc := 42) dX3_bringToLeast_42 fX3_11 (by assumption) (by omega) ?_
          refine x_iload_n (pc := 45) dX3_bringToLeast_45 rfl ?_
          refine x_al (pc := 46) dX3_bringToLeast_46 (by assumption) (by omega) rfl (by omega) (by assumption) ?_
          refine x_iload_n (pc := 47) dX3_bringToLeast_47 rfl ?_
          refine x_il (pc := 48) dX3_bringToLeast_48 (by assumption) (by omega) rfl (by omega) ?_
          refine x_y1 (pc := 49) dX3_bringToLeast_49 wX3_inverse iX3_inverse kX3_52 (by decide) rfl (Nat.le_of_ble_eq_true rfl) (by assumption) (by omega) (t_inv (v := swp M r k k pl) ⟨g2, σ2, R35⟩ hz hP (by rw [hsw]; have := hM r pl (by omega) (by omega); omega)) (fun v49 h49 e49 => ?_)
          obtain ⟨rfl, xi, rfl, hx1, hx2⟩ := e49
          rw [hsw] at hx2
          refine x_iload_n (pc := 52) dX3_bringToLeast_52 rfl ?_
          refine x_p3 (pc := 53) dX3_bringToLeast_53 wX3_scale iX3_scale kX3_56 (by decide) rfl (Nat.le_of_ble_eq_true rfl) (by assumption) (by omega) (t_scale ⟨g2, σ2, R35⟩ hz (by omega) hw hP hM2 ⟨by omega, hx1⟩ (by omega)) (fun h53 e53 => ?_)
          obtain ⟨f53, R53⟩ := e53
          have hM3 := hM2.scl (w := w) (k := k) (pl := pl) (x := (xi : Int)) (by have := hP.le; omega)
          have hob53 := R53.ob
          refine x_aload_n (pc := 56) dX3_bringToLeast_56 rfl ?_
          refine x_iload_n (pc := 57) dX3_bringToLeast_57 rfl ?_
          refine x_iload_n (pc := 58) dX3_bringToLeast_58 rfl ?_
          refine x_p2 (pc := 59) dX3_bringToLeast_59 wX3_clearElsewhere iX3_clearElsewhere kX3_60 (by decide) rfl (Nat.le_of_ble_eq_true rfl) (by assumption) (by omega) (t_clr R53 hz hc (by omega) (by omega) hw hP hM3) (fun h59 e59 => ?_)
          obtain ⟨f59, R59⟩ := e59
          have hM4 := hM3.clr (w := w) (c := c) (k := k) (pl := pl) (by have := hP.le; omega)
          obtain ⟨g3, σ3, R59⟩ := R59
          obtain ⟨R1, R2, R3, R4, R5, R6, R7, R8, R9⟩ := id R59
          refine x_aload_n (pc := 62) dX3_bringToLeast_62 rfl ?_
          refine x_gf (pc := 63) dX3_bringToLeast_63 fX3_16 (by assumption) (by omega) ?_
          refine x_iload_n (pc := 66) dX3_bringToLeast_66 rfl ?_
          refine x_iload_n (pc := 67) dX3_bringToLeast_67 rfl ?_
          refine x_is (pc := 68) dX3_bringToLeast_68 (by assumption) (by omega) rfl (by omega) ?_
          have RR := R59.hds (f := up hd pl (k : Int))
          have FF := ((f35.tr f53).tr f59).up (a := b + 6) (c := ar 0 8 (up hd pl (k : Int))) (by omega) (by omega)
          refine x_iinc (pc := 69) dX3_bringToLeast_69 rfl (by decide) rfl ?_
          show Ex _ _ _ _ _ _ [_, _, _, _] _ _ _ _
          refine x_iinc (pc := 72) dX3_bringToLeast_72 rfl (by decide) rfl ?_
          show Ex _ _ _ _ _ _ [_, _, _, _] _ _ _ _
          refine x_goto (pc := 75) (tgt := 4) dX3_bringToLeast_75 (by decide) ?_
          first
            | exact ih _ _ _ _ _ g σ (by omega) R hM (hsk pl k M hd (by omega) (by omega) hM hJ (by rcases hv with ⟨r, h, _⟩ | ⟨_, h⟩; exact absurd h (by omega); exact h)) hq
            | exact ih _ _ _ (k + 1) _ g3 σ3 (by omega) RR hM4 (hpv pl k M hd r xi (by omega) (by omega) hM hJ hr1 hr2 hr3 hr4 hx1 hx2) (fun h M1 hd1 k1 p1 f1 => hq h M1 hd1 k1 p1 (FF.tr f1))

set_option maxRecDepth 4000 in
theorem t_bring {G : GL} {d : Nat} {hp : HP} {sz : Nat} {b p c w : Nat} {M : Nat → Nat → Int} {hd : Nat → Int} (R : RowsA hp b p M hd c w) (hz : b + 6 < sz) (hc : c ≤ 4) (hw : w ≤ 8) (hP : isP p) (hM : inP M p) (J : Nat → Nat → (Nat → Nat → Int) → (Nat → Int) → Prop) (h0 : J 0 0 M hd) (hsk : ∀ pl k M hd, pl < w → k < c → inP M p → J pl k M hd → (∀ i, k ≤ i → i < c → M i pl = 0) → J (pl + 1) k M hd) (hpv : ∀ pl k M hd (r x : Nat), pl < w → k < c → inP M p → J pl k M hd → k ≤ r → r < c → M r pl ≠ 0 → (∀ i, k ≤ i → i < r → M i pl = 0) → (x : Int) < p → ((x : Int) * M r pl) % p = 1 → J (pl + 1) (k + 1) (elm p w c M r k x pl) (up hd pl (k : Int))) : Ct G (d + 1) 0 0 mX3_bringToLeast [vr b] hp sz (Vd (fun h => Fr hp h b (b + 6) ∧ ∃ M1 hd1 k1 pl1, RowsA h b p M1 hd1 k1 w ∧ inP M1 p ∧ J pl1 k1 M1 hd1 ∧ (pl1 = w ∨ k1 = c)) sz) := by
  show Ex _ _ _ _ _ _ [vr b, vu, vu, vu] _ _ _ _
  obtain ⟨g, σ, R⟩ := R
  refine x_iconst (pc := 0) dX3_bringToLeast_0 ?_
  refine x_istore_n (pc := 1) dX3_bringToLeast_1 (by decide) rfl ?_
  show Ex _ _ _ _ _ _ [_, _, _, _] _ _ _ _
  refine x_iconst (pc := 2) dX3_bringToLeast_2 ?_
  refine x_istore_n (pc := 3) dX3_bringToLeast_3 (by decide) rfl ?_
  show Ex _ _ _ _ _ _ [_, _, _, _] _ _ _ _
  exact l_bring hz hc hw hP J hsk hpv 0 (by omega) hp M hd 0 _ g σ (by omega) R hM h0 (fun h M1 hd1 k1 p1 f1 r1 m1 j1 e1 => ⟨rfl, rfl, f1, M1, hd1, k1, p1, r1, m1, j1, e1⟩)

theorem l_sw {G : GL} {d : Nat} {sz : Nat} {b p c w : Nat} {g : Nat → Option Nat} {σ : Nat → Nat} {n : Nat} {Q : Option AV → HP → Nat → Prop} (hz : b + 6 < sz) (hc : c ≤ 4) : ∀ i, i ≤ c → ∀ (hp : HP) (M : Nat → Nat → Int) (hd : Nat → Int), RowsB hp b p M hd c w g σ → (∀ h M1 hd1, Fr hp h b (b + 6) → RowsB h b p M1 hd1 c w g σ → (∀ x, i ≤ x → x < c → ∀ j, j < 8 → M1 x j = if j = x then 1 else 0) → (∀ x, (x < i ∨ c ≤ x) → M1 x = M x) → (∀ x, i ≤ x → x < c → hd1 x = (x : Int)) → (∀ x, (x < i ∨ c ≤ x) → hd1 x = hd x) → Q none h sz) → Ex G (d + 1) 0 0 mX3_startWhole 8 [vr b, vi n, vi i] [] hp sz Q := by
  refine down (fun hp M hd R hq => ?_) (fun i hi ih hp M hd R hq => ?_)
  · obtain ⟨R1, R2, R3, R4, R5, R6, R7, R8, R9⟩ := id R
    refine x_iload_n (pc := 8) dX3_startWhole_8 rfl ?_
    refine x_aload_n (pc := 9) dX3_startWhole_9 rfl ?_
    refine x_gf (pc := 10) dX3_startWhole_10 fX3_30 (by assumption) (by omega) ?_
    refine x_icmp_ge (pc := 13) (tgt := 48) dX3_startWhole_13 (by decide) (by omega) (by omega) (fun c13 => ?_) (fun c13 => ?_)
    · refine x_vret (pc := 48) dX3_startWhole_48 rfl (hq hp M hd Fr.rf R (fun x h1 h2 => absurd h2 (by omega)) (fun x h1 => rfl) (fun x h1 h2 => absurd h2 (by omega)) (fun x h1 => rfl))
    · exact absurd c13 (by omega)
  · obtain ⟨R1, R2, R3, R4, R5, R6, R7, R8, R9⟩ := id R
    obtain ⟨a1, a2, a3, a4⟩ := R.lt (i := i) (by omega)
    refine x_iload_n (pc := 8) dX3_startWhole_8 rfl ?_
    refine x_aload_n (pc := 9) dX3_startWhole_9 rfl ?_
    refine x_gf (pc := 10) dX3_startWhole_10 fX3_30 (by assumption) (by omega) ?_
    refine x_icmp_ge (pc := 13) (tgt := 48) dX3_startWhole_13 (by decide) (by omega) (by omega) (fun c13 => ?_) (fun c13 => ?_)
    · exact absurd c13 (by omega)
    · refine x_aload_n (pc := 16) dX3_startWhole_16 rfl ?_
      refine x_gf (pc := 17) dX3_startWhole_17 fX3_11 (by assumption) (by omega) ?_
      refine x_iload_n (pc := 20) dX3_startWhole_20 rfl ?_
      refine x_al (pc := 21) dX3_startWhole_21 (by assumption) (by omega) rfl (by omega) (by assumption) ?_
      refine x_iconst (pc := 22) dX3_startWhole_22 ?_
      refine x_q2 (pc := 23) dX3_startWhole_23 wJ7_fill_53178 sJ7_fill_53178 kX3_36 (by decide) rfl (Nat.le_of_ble_eq_true rfl) (t_fill a4 (by omega) (by omega)) (fun h23 e23 => ?_)
      subst e23
      have Ra := R.row (f := fun j => if j < 8 then 0 else M i j) (show i < 4 by omega)
      obtain ⟨R1, R2, R3, R4, R5, R6, R7, R8, R9⟩ := id Ra
      obtain ⟨a1, a2, a3, -⟩ := Ra.lt (i := i) (by omega)
      have a4 := up_s hp (σ i) (ar 0 8 (fun j => if j < 8 then 0 else M i j))
      refine x_aload_n (pc := 26) dX3_startWhole_26 rfl ?_
      refine x_gf (pc := 27) dX3_startWhole_27 fX3_11 (by assumption) (by omega) ?_
      refine x_iload_n (pc := 30) dX3_startWhole_30 rfl ?_
      refine x_al (pc := 31) dX3_startWhole_31 (by assumption) (by omega) rfl (by omega) (by assumption) ?_
      refine x_iload_n (pc := 32) dX3_startWhole_32 rfl ?_
      refine x_iconst (pc := 33) dX3_startWhole_33 ?_
      refine x_is (pc := 34) dX3_startWhole_34 (by assumption) (by omega) rfl (by omega) ?_
      have Rb := (Ra.row (f := up (fun j => if j < 8 then (0 : Int) else M i j) i 1) (show i < 4 by omega)).cg (M' := up M i (up (fun j => if j < 8 then (0 : Int) else M i j) i 1)) (fun x hx => by rw [up_up])
      obtain ⟨R1, R2, R3, R4, R5, R6, R7, R8, R9⟩ := id Rb
      refine x_aload_n (pc := 35) dX3_startWhole_35 rfl ?_
      refine x_gf (pc := 36) dX3_startWhole_36 fX3_16 (by assumption) (by omega) ?_
      refine x_iload_n (pc := 39) dX3_startWhole_39 rfl ?_
      refine x_iload_n (pc := 40) dX3_startWhole_40 rfl ?_
      refine x_is (pc := 41) dX3_startWhole_41 (by assumption) (by omega) rfl (by omega) ?_
      have RR := Rb.hds (f := up hd i (i : Int))
      have FF := ((Fr.rf (hp := hp)).up (a := σ i) (c := ar 0 8 (fun j => if j < 8 then 0 else M i j)) (show b ≤ _ by omega) (show _ ≤ b + 6 by omega)).up (a := σ i) (c := ar 0 8 (up (fun j => if j < 8 then 0 else M i j) i 1)) (by omega) (by omega) |>.up (a := b + 6) (c := ar 0 8 (up hd i (i : Int))) (by omega) (by omega)
      refine x_iinc (pc := 42) dX3_startWhole_42 rfl (by decide) rfl ?_
      show Ex _ _ _ _ _ _ [_, _, _] _ _ _ _
      refine x_goto (pc := 45) (tgt := 8) dX3_startWhole_45 (by decide) ?_
      exact ih _ _ _ RR (fun h M1 hd1 f1 r1 e1 e2 e3 e4 => hq h M1 hd1 (FF.tr f1) r1 (fun x h1 h2 j hj => by
        by_cases e : x = i
        · subst e
          rw [e2 x (by omega), up_s]
          by_cases e5 : j = x
          · rw [e5, up_s, if_pos rfl]
          · rw [up_n _ _ e5, if_pos hj, if_neg e5]
        · exact e1 x (by omega) h2 j hj) (fun x h1 => by rw [e2 x (by omega), up_n _ _ (by omega)]) (fun x h1 h2 => by
        by_cases e : x = i
        · subst e
          rw [e4 x (by omega), up_s]
        · exact e3 x (by omega) h2) (fun x h1 => by rw [e4 x (by omega), up_n _ _ (by omega)]))

set_option maxRecDepth 4000 in
theorem t_startWhole {G : GL} {d : Nat} {hp : HP} {sz : Nat} {b p c w : Nat} {M : Nat → Nat → Int} {hd : Nat → Int} (R : RowsA hp b p M hd c w) (hz : b + 6 < sz) {n : Nat} (hn : n ≤ 4) : Ct G (d + 2) 0 0 mX3_startWhole [vr b, vi n] hp sz (Vd (fun h => Fr hp h b (b + 6) ∧ ∃ M1 hd1, RowsA h b p M1 hd1 n n ∧ (∀ x, x < n → ∀ j, j < 8 → M1 x j = if j = x then 1 else 0) ∧ (∀ x, n ≤ x → M1 x = M x) ∧ (∀ x, x < n → hd1 x = (x : Int)) ∧ (∀ x, n ≤ x → x < 8 → hd1 x = -1)) sz) := by
  show Ex _ _ _ _ _ _ [vr b, vi n, vu] _ _ _ _
  have hob := R.ob
  refine x_aload_n (pc := 0) dX3_startWhole_0 rfl ?_
  refine x_iload_n (pc := 1) dX3_startWhole_1 rfl ?_
  refine x_iload_n (pc := 2) dX3_startWhole_2 rfl ?_
  refine x_p2 (pc := 3) dX3_startWhole_3 wX3_start iX3_start kX3_42 (by decide) rfl (Nat.le_of_ble_eq_true rfl) (by assumption) (by omega) (t_start R hz (by omega) (by omega)) (fun h3 e3 => ?_)
  obtain ⟨f3, hd1, R3, e3⟩ := e3
  rw [show min n 4 = n by omega, show min n 8 = n by omega] at R3
  obtain ⟨g, σ, R3⟩ := R3
  refine x_iconst (pc := 6) dX3_startWhole_6 ?_
  refine x_istore_n (pc := 7) dX3_startWhole_7 (by decide) rfl ?_
  show Ex _ _ _ _ _ _ [_, _, _] _ _ _ _
  exact l_sw hz hn 0 (by omega) h3 M hd1 R3 (fun h M1 hd2 f1 r1 p1 p2 p3 p4 => ⟨rfl, rfl, f3.tr f1, M1, hd2, ⟨g, σ, r1⟩, fun x hx j hj => p1 x (by omega) hx j hj, fun x hx => p2 x (by omega), fun x hx => p3 x (by omega) hx, fun x hx h8 => (p4 x (by omega)).trans (e3 x h8)⟩)

/-! Rows at b: the outer array at b + 1, four rows at b + 2 .. b + 5 in some order, headRows at b + 6 -/
def RowsB (hp : HP) (b p : Nat) (M : Nat → Nat → Int) (hd : Nat → Int) (c w : Nat) (g : Nat → Option Nat) (σ : Nat → Nat) : Prop :=
  fld hp b 3 0 (vi p) ∧ fld hp b 3 1 (vr (b + 1)) ∧ fld hp b 3 2 (vr (b + 6)) ∧ fld hp b 3 3 (vi c) ∧ fld hp b 3 4 (vi w) ∧ hp (b + 6) = ar 0 8 hd ∧ hp (b + 1) = rr 5 4 g ∧
  (∀ i, i < 4 → g i = some (σ i) ∧ b + 2 ≤ σ i ∧ σ i ≤ b + 5 ∧ hp (σ i) = ar 0 8 (M i)) ∧ ∀ i j, i < 4 → j < 4 → σ i = σ j → i = j
def RowsA (hp : HP) (b p : Nat) (M : Nat → Nat → Int) (hd : Nat → Int) (c w : Nat) : Prop := ∃ g σ, RowsB hp b p M hd c w g σ
theorem RowsB.keep {hp hp' : HP} {b p c w : Nat} {M : Nat → Nat → Int} {hd : Nat → Int} {g : Nat → Option Nat} {σ : Nat → Nat} (h : RowsB hp b p M hd c w g σ) (e : ∀ x, b ≤ x → x ≤ b + 6 → hp' x = hp x) : RowsB hp' b p M hd c w g σ := by
  obtain ⟨h1, h2, h3, h4, h5, h6, h7, h8, h9⟩ := h
  have e0 := e b (by omega) (by omega)
  refine ⟨h1.keep e0, h2.keep e0, h3.keep e0, h4.keep e0, h5.keep e0, (e _ (by omega) (by omega)).trans h6, (e _ (by omega) (by omega)).trans h7, fun i hi => ?_, h9⟩
  obtain ⟨a1, a2, a3, a4⟩ := h8 i hi
  exact ⟨a1, a2, a3, (e _ (by omega) (by omega)).trans a4⟩
theorem RowsA.keep {hp hp' : HP} {b p c w : Nat} {M : Nat → Nat → Int} {hd : Nat → Int} (h : RowsA hp b p M hd c w) (e : ∀ x, b ≤ x → x ≤ b + 6 → hp' x = hp x) : RowsA hp' b p M hd c w := by
  obtain ⟨g, σ, h⟩ := h
  exact ⟨g, σ, h.keep e⟩
theorem RowsB.row {hp : HP} {b p c w i : Nat} {M : Nat → Nat → Int} {hd f : Nat → Int} {g : Nat → Option Nat} {σ : Nat → Nat} (h : RowsB hp b p M hd c w g σ) (hi : i < 4) : RowsB (up hp (σ i) (ar 0 8 f)) b p (up M i f) hd c w g σ := by
  obtain ⟨h1, h2, h3, h4, h5, h6, h7, h8, h9⟩ := h
  obtain ⟨a1, a2, a3, a4⟩ := h8 i hi
  refine ⟨h1.up (by omega), h2.up (by omega), h3.up (by omega), h4.up (by omega), h5.up (by omega), (up_n _ _ (by omega)).trans h6, (up_n _ _ (by omega)).trans h7, fun j hj => ?_, h9⟩
  obtain ⟨b1, b2, b3, b4⟩ := h8 j hj
  refine ⟨b1, b2, b3, ?_⟩
  by_cases e : j = i
  · subst e
    rw [up_s, up_s]
  · rw [up_n _ _ e, up_n _ _ (fun z => e (h9 j i hj hi z))]
    exact b4
theorem RowsB.hds {hp : HP} {b p c w : Nat} {M : Nat → Nat → Int} {hd f : Nat → Int} {g : Nat → Option Nat} {σ : Nat → Nat} (h : RowsB hp b p M hd c w g σ) : RowsB (up hp (b + 6) (ar 0 8 f)) b p M f c w g σ := by
  obtain ⟨h1, h2, h3, h4, h5, h6, h7, h8, h9⟩ := h
  refine ⟨h1.up (by omega), h2.up (by omega), h3.up (by omega), h4.up (by omega), h5.up (by omega), up_s _ _ _, (up_n _ _ (by omega)).trans h7, fun j hj => ?_, h9⟩
  obtain ⟨b1, b2, b3, b4⟩ := h8 j hj
  exact ⟨b1, b2, b3, (up_n _ _ (by omega)).trans b4⟩
theorem RowsB.pfc {hp hp' : HP} {b p c w c' : Nat} {M : Nat → Nat → Int} {hd : Nat → Int} {g : Nat → Option Nat} {σ : Nat → Nat} (h : RowsB hp b p M hd c w g σ) (e : pf hp b 3 3 (vi c') hp') : RowsB hp' b p M hd c' w g σ := by
  obtain ⟨h1, h2, h3, h4, h5, h6, h7, h8, h9⟩ := h
  refine ⟨e.2.2 _ _ (by decide) h1, e.2.2 _ _ (by decide) h2, e.2.2 _ _ (by decide) h3, e.2.1, e.2.2 _ _ (by decide) h5, (e.1 _ (by omega)).trans h6, (e.1 _ (by omega)).trans h7, fun j hj => ?_, h9⟩
  obtain ⟨b1, b2, b3, b4⟩ := h8 j hj
  exact ⟨b1, b2, b3, (e.1 _ (by omega)).trans b4⟩
theorem RowsB.pfw {hp hp' : HP} {b p c w c' : Nat} {M : Nat → Nat → Int} {hd : Nat → Int} {g : Nat → Option Nat} {σ : Nat → Nat} (h : RowsB hp b p M hd c w g σ) (e : pf hp b 3 4 (vi c') hp') : RowsB hp' b p M hd c c' g σ := by
  obtain ⟨h1, h2, h3, h4, h5, h6, h7, h8, h9⟩ := h
  refine ⟨e.2.2 _ _ (by decide) h1, e.2.2 _ _ (by decide) h2, e.2.2 _ _ (by decide) h3, e.2.2 _ _ (by decide) h4, e.2.1, (e.1 _ (by omega)).trans h6, (e.1 _ (by omega)).trans h7, fun j hj => ?_, h9⟩
  obtain ⟨b1, b2, b3, b4⟩ := h8 j hj
  exact ⟨b1, b2, b3, (e.1 _ (by omega)).trans b4⟩
theorem RowsB.lt {hp : HP} {b p c w i : Nat} {M : Nat → Nat → Int} {hd : Nat → Int} {g : Nat → Option Nat} {σ : Nat → Nat} (h : RowsB hp b p M hd c w g σ) (hi : i < 4) : g i = some (σ i) ∧ b + 2 ≤ σ i ∧ σ i ≤ b + 5 ∧ hp (σ i) = ar 0 8 (M i) := h.2.2.2.2.2.2.2.1 i hi
theorem RowsA.ob {hp : HP} {b p c w : Nat} {M : Nat → Nat → Int} {hd : Nat → Int} (h : RowsA hp b p M hd c w) : isob hp b 3 := by
  obtain ⟨g, σ, h⟩ := h
  exact h.1.ob

set_option maxRecDepth 4000 in
theorem t_Rnumber {G : GL} {d : Nat} {hp : HP} {sz : Nat} {b p c w : Nat} {M : Nat → Nat → Int} {hd : Nat → Int} (R : RowsA hp b p M hd c w) (hz : b + 6 < sz) {i j : Nat} (hi : i < 4) (hj : j < 8) : Ct G d 0 0 mX3_number [vr b, vi i, vi j] hp sz (Rd (some (vi (M i j))) hp sz) := by
  show Ex _ _ _ _ _ _ [vr b, vi i, vi j] _ _ _ _
  have hob := R.ob
  obtain ⟨g, σ, R⟩ := R
  obtain ⟨R1, R2, R3, R4, R5, R6, R7, R8, R9⟩ := id R
  obtain ⟨a1, a2, a3, a4⟩ := R.lt (i := i) (by omega)
  refine x_aload_n (pc := 0) dX3_number_0 rfl ?_
  refine x_gf (pc := 1) dX3_number_1 fX3_11 (by assumption) (by omega) ?_
  refine x_iload_n (pc := 4) dX3_number_4 rfl ?_
  refine x_al (pc := 5) dX3_number_5 (by assumption) (by omega) rfl (by omega) (by assumption) ?_
  refine x_iload_n (pc := 6) dX3_number_6 rfl ?_
  refine x_il (pc := 7) dX3_number_7 (by assumption) (by omega) rfl (by omega) ?_
  refine x_iret (pc := 8) dX3_number_8 rfl ⟨rfl, rfl, rfl⟩

set_option maxRecDepth 4000 in
theorem t_Rput {G : GL} {d : Nat} {hp : HP} {sz : Nat} {b p c w : Nat} {M : Nat → Nat → Int} {hd : Nat → Int} (R : RowsA hp b p M hd c w) (hz : b + 6 < sz) {i j : Nat} {x : Int} (hi : i < 4) (hj : j < 8) : Ct G d 0 0 mX3_put [vr b, vi i, vi j, vi x] hp sz (Vd (fun h => Fr hp h b (b + 6) ∧ RowsA h b p (up M i (up (M i) j x)) hd c w) sz) := by
  show Ex _ _ _ _ _ _ [vr b, vi i, vi j, vi x] _ _ _ _
  have hob := R.ob
  obtain ⟨g, σ, R⟩ := R
  obtain ⟨R1, R2, R3, R4, R5, R6, R7, R8, R9⟩ := id R
  obtain ⟨a1, a2, a3, a4⟩ := R.lt (i := i) (by omega)
  refine x_aload_n (pc := 0) dX3_put_0 rfl ?_
  refine x_gf (pc := 1) dX3_put_1 fX3_11 (by assumption) (by omega) ?_
  refine x_iload_n (pc := 4) dX3_put_4 rfl ?_
  refine x_al (pc := 5) dX3_put_5 (by assumption) (by omega) rfl (by omega) (by assumption) ?_
  refine x_iload_n (pc := 6) dX3_put_6 rfl ?_
  refine x_iload_n (pc := 7) dX3_put_7 rfl ?_
  refine x_is (pc := 8) dX3_put_8 (by assumption) (by omega) rfl (by omega) ?_
  refine x_vret (pc := 9) dX3_put_9 rfl ⟨rfl, rfl, Fr.rf.up (by omega) (by omega), _, _, R.row hi⟩

set_option maxRecDepth 4000 in
theorem t_isFree {G : GL} {d : Nat} {hp : HP} {sz : Nat} {b p c w : Nat} {M : Nat → Nat → Int} {hd : Nat → Int} (R : RowsA hp b p M hd c w) (hz : b + 6 < sz) {j : Nat} (hj : j < 8) (hr : -1 ≤ hd j ∧ hd j < 4) : Ct G d 0 0 mX3_isFree [vr b, vi j] hp sz (Rd (some (vi (bz (decide (hd j = -1))))) hp sz) := by
  show Ex _ _ _ _ _ _ [vr b, vi j] _ _ _ _
  have hob := R.ob
  obtain ⟨g, σ, R⟩ := R
  obtain ⟨R1, R2, R3, R4, R5, R6, R7, R8, R9⟩ := id R
  refine x_aload_n (pc := 0) dX3_isFree_0 rfl ?_
  refine x_gf (pc := 1) dX3_isFree_1 fX3_16 (by assumption) (by omega) ?_
  refine x_iload_n (pc := 4) dX3_isFree_4 rfl ?_
  refine x_il (pc := 5) dX3_isFree_5 (by assumption) (by omega) rfl (by omega) ?_
  refine x_iconst (pc := 6) dX3_isFree_6 ?_
  refine x_icmp_ne (pc := 7) (tgt := 14) dX3_isFree_7 (by decide) (by omega) (by omega) (fun c7 => ?_) (fun c7 => ?_)
  · refine x_iconst (pc := 14) dX3_isFree_14 ?_
    refine x_zret (pc := 15) dX3_isFree_15 rfl (by omega) ⟨by simp [bz, c7], rfl, rfl⟩
  · refine x_iconst (pc := 10) dX3_isFree_10 ?_
    refine x_goto (pc := 11) (tgt := 15) dX3_isFree_11 (by decide) ?_
    refine x_zret (pc := 15) dX3_isFree_15 rfl (by omega) ⟨by simp [bz, c7], rfl, rfl⟩

set_option maxRecDepth 4000 in
theorem t_freeCount {G : GL} {d : Nat} {hp : HP} {sz : Nat} {b p c w : Nat} {M : Nat → Nat → Int} {hd : Nat → Int} (R : RowsA hp b p M hd c w) (hz : b + 6 < sz) : Ct G d 0 0 mX3_freeCount [vr b] hp sz (Rd (some (vi ((w : Int) - c))) hp sz) := by
  show Ex _ _ _ _ _ _ [vr b] _ _ _ _
  have hob := R.ob
  obtain ⟨g, σ, R⟩ := R
  obtain ⟨R1, R2, R3, R4, R5, R6, R7, R8, R9⟩ := id R
  refine x_aload_n (pc := 0) dX3_freeCount_0 rfl ?_
  refine x_gf (pc := 1) dX3_freeCount_1 fX3_33 (by assumption) (by omega) ?_
  refine x_aload_n (pc := 4) dX3_freeCount_4 rfl ?_
  refine x_gf (pc := 5) dX3_freeCount_5 fX3_30 (by assumption) (by omega) ?_
  refine x_isub (pc := 8) dX3_freeCount_8 ?_
  refine x_iret (pc := 9) dX3_freeCount_9 rfl ⟨rfl, rfl, rfl⟩

set_option maxRecDepth 4000 in
theorem t_rest {G : GL} {d : Nat} {hp : HP} {sz : Nat} {b p c w : Nat} {M : Nat → Nat → Int} {hd : Nat → Int} (R : RowsA hp b p M hd c w) (hz : b + 6 < sz) {i j : Nat} (hi : i < 8) (hj : j < 8) (hr : -1 ≤ hd i ∧ hd i < 4) (hm : ∀ r : Nat, r < 4 → hd i = (r : Int) → 0 ≤ M r j ∧ M r j < p) (hp13 : p ≤ 13) : Ct G d 0 0 mX3_rest [vr b, vi i, vi j] hp sz (Rd (some (vi (if i = j then 1 else if hd i = -1 then 0 else if M (hd i).toNat j = 0 then 0 else p - M (hd i).toNat j))) hp sz) := by
  show Ex _ _ _ _ _ _ [vr b, vi i, vi j, vu] _ _ _ _
  have hob := R.ob
  obtain ⟨g, σ, R⟩ := R
  obtain ⟨R1, R2, R3, R4, R5, R6, R7, R8, R9⟩ := id R
  refine x_iload_n (pc := 0) dX3_rest_0 rfl ?_
  refine x_iload_n (pc := 1) dX3_rest_1 rfl ?_
  refine x_icmp_ne (pc := 2) (tgt := 7) dX3_rest_2 (by decide) (by omega) (by omega) (fun c2 => ?_) (fun c2 => ?_)
  · refine x_aload_n (pc := 7) dX3_rest_7 rfl ?_
    refine x_gf (pc := 8) dX3_rest_8 fX3_16 (by assumption) (by omega) ?_
    refine x_iload_n (pc := 11) dX3_rest_11 rfl ?_
    refine x_il (pc := 12) dX3_rest_12 (by assumption) (by omega) rfl (by omega) ?_
    refine x_istore_n (pc := 13) dX3_rest_13 (by decide) rfl ?_
    show Ex _ _ _ _ _ _ [_, _, _, _] _ _ _ _
    refine x_iload_n (pc := 14) dX3_rest_14 rfl ?_
    refine x_iconst (pc := 15) dX3_rest_15 ?_
    refine x_icmp_eq (pc := 16) (tgt := 30) dX3_rest_16 (by decide) (by omega) (by omega) (fun c16 => ?_) (fun c16 => ?_)
    · first | (have h8 : hd i = -1 := by omega) | (have h8 : hd i ≠ -1 := by omega)
      refine x_iconst (pc := 30) dX3_rest_30 ?_
      refine x_goto (pc := 31) (tgt := 47) dX3_rest_31 (by decide) ?_
      refine x_iret (pc := 47) dX3_rest_47 rfl (by first | (refine ⟨?_, rfl, rfl⟩; rw [if_neg (by omega), if_pos (by omega)]) | (refine ⟨?_, rfl, rfl⟩; rw [if_neg (by omega), if_neg (by omega), if_pos (by omega)]) | (refine ⟨?_, rfl, rfl⟩; rw [if_neg (by omega), if_neg (by omega), if_neg (by omega)]))
    · have hh : hd i = (((hd i).toNat : Nat) : Int) := by omega
      obtain ⟨a1, a2, a3, a4⟩ := R.lt (i := (hd i).toNat) (by omega)
      have hm9 := hm (hd i).toNat (by omega) hh
      refine x_aload_n (pc := 19) dX3_rest_19 rfl ?_
      refine x_gf (pc := 20) dX3_rest_20 fX3_11 (by assumption) (by omega) ?_
      refine x_iload_n (pc := 23) dX3_rest_23 rfl ?_
      refine x_al (pc := 24) (j := (hd i).toNat) dX3_rest_24 (by assumption) (by omega) (by omega) (by omega) (by assumption) ?_
      refine x_iload_n (pc := 25) dX3_rest_25 rfl ?_
      refine x_il (pc := 26) dX3_rest_26 (by assumption) (by omega) rfl (by omega) ?_
      refine x_if_ne (pc := 27) (tgt := 34) dX3_rest_27 (by decide) (by omega) (fun c27 => ?_) (fun c27 => ?_)
      · refine x_aload_n (pc := 34) dX3_rest_34 rfl ?_
        refine x_gf (pc := 35) dX3_rest_35 fX3_20 (by assumption) (by omega) ?_
        refine x_aload_n (pc := 38) dX3_rest_38 rfl ?_
        refine x_gf (pc := 39) dX3_rest_39 fX3_11 (by assumption) (by omega) ?_
        refine x_iload_n (pc := 42) dX3_rest_42 rfl ?_
        refine x_al (pc := 43) (j := (hd i).toNat) dX3_rest_43 (by assumption) (by omega) (by omega) (by omega) (by assumption) ?_
        refine x_iload_n (pc := 44) dX3_rest_44 rfl ?_
        refine x_il (pc := 45) dX3_rest_45 (by assumption) (by omega) rfl (by omega) ?_
        refine x_isub (pc := 46) dX3_rest_46 ?_
        refine x_iret (pc := 47) dX3_rest_47 rfl (by first | (refine ⟨?_, rfl, rfl⟩; rw [if_neg (by omega), if_pos (by omega)]) | (refine ⟨?_, rfl, rfl⟩; rw [if_neg (by omega), if_neg (by omega), if_pos (by omega)]) | (refine ⟨?_, rfl, rfl⟩; rw [if_neg (by omega), if_neg (by omega), if_neg (by omega)]))
      · first | (have h8 : hd i = -1 := by omega) | (have h8 : hd i ≠ -1 := by omega)
        refine x_iconst (pc := 30) dX3_rest_30 ?_
        refine x_goto (pc := 31) (tgt := 47) dX3_rest_31 (by decide) ?_
        refine x_iret (pc := 47) dX3_rest_47 rfl (by first | (refine ⟨?_, rfl, rfl⟩; rw [if_neg (by omega), if_pos (by omega)]) | (refine ⟨?_, rfl, rfl⟩; rw [if_neg (by omega), if_neg (by omega), if_pos (by omega)]) | (refine ⟨?_, rfl, rfl⟩; rw [if_neg (by omega), if_neg (by omega), if_neg (by omega)]))
  · refine x_iconst (pc := 5) dX3_rest_5 ?_
    refine x_iret (pc := 6) dX3_rest_6 rfl ⟨by rw [if_pos (by omega)], rfl, rfl⟩

set_option maxRecDepth 4000 in
theorem t_start {G : GL} {d : Nat} {hp : HP} {sz : Nat} {b p c w : Nat} {M : Nat → Nat → Int} {hd : Nat → Int} (R : RowsA hp b p M hd c w) (hz : b + 6 < sz) {x y : Nat} (hx : x < 1000) (hy : y < 1000) : Ct G (d + 1) 0 0 mX3_start [vr b, vi x, vi y] hp sz (Vd (fun h => Fr hp h b (b + 6) ∧ ∃ hd1, RowsA h b p M hd1 (min x 4) (min y 8) ∧ ∀ j, j < 8 → hd1 j = -1) sz) := by
  show Ex _ _ _ _ _ _ [vr b, vi x, vi y] _ _ _ _
  have hob := R.ob
  obtain ⟨g, σ, R⟩ := R
  obtain ⟨R1, R2, R3, R4, R5, R6, R7, R8, R9⟩ := id R
  refine x_aload_n (pc := 0) dX3_start_0 rfl ?_
  refine x_iload_n (pc := 1) dX3_start_1 rfl ?_
  refine x_iconst (pc := 2) dX3_start_2 ?_
  refine x_t2 (pc := 3) dX3_start_3 wJ9_min_7cf53 sJ9_min_7cf53 kX3_24 (by decide) rfl (Nat.le_of_ble_eq_true rfl) (t_min (by omega) (by omega)) ?_
  rw [show min (x : Int) 4 = ((min x 4 : Nat) : Int) by omega]
  refine x_pfi (pc := 6) dX3_start_6 pX3_30 hob (by omega) (fun hp6 hf6 => ?_)
  have Ra := R.pfc hf6
  have hob2 := (hf6.2.1).ob
  refine x_aload_n (pc := 9) dX3_start_9 rfl ?_
  refine x_iload_n (pc := 10) dX3_start_10 rfl ?_
  refine x_bipush (pc := 11) dX3_start_11 (by decide) ?_
  refine x_t2 (pc := 13) dX3_start_13 wJ9_min_7cf53 sJ9_min_7cf53 kX3_24 (by decide) rfl (Nat.le_of_ble_eq_true rfl) (t_min (by omega) (by omega)) ?_
  rw [show min (y : Int) 8 = ((min y 8 : Nat) : Int) by omega]
  refine x_pfi (pc := 16) dX3_start_16 pX3_33 hob2 (by omega) (fun hp16 hf16 => ?_)
  have Rb := Ra.pfw hf16
  obtain ⟨R1, R2, R3, R4, R5, R6, R7, R8, R9⟩ := id Rb
  refine x_aload_n (pc := 19) dX3_start_19 rfl ?_
  refine x_gf (pc := 20) dX3_start_20 fX3_16 (by assumption) (by omega) ?_
  refine x_iconst (pc := 23) dX3_start_23 ?_
  refine x_q2 (pc := 24) dX3_start_24 wJ7_fill_53178 sJ7_fill_53178 kX3_36 (by decide) rfl (Nat.le_of_ble_eq_true rfl) (t_fill R6 (by omega) (by omega)) (fun h24 e24 => ?_)
  subst e24
  refine x_vret (pc := 27) dX3_start_27 rfl ⟨rfl, rfl, ((Fr.rf.pf hf6 (by omega) (by omega)).pf hf16 (by omega) (by omega)).up (by omega) (by omega), _, ⟨_, _, Rb.hds⟩, fun j hj => if_pos hj⟩

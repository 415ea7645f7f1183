theorem Lay.pfw {hp hp' : HP} {a : Nat} {s n : Nat → Int} {w x : Nat} (h : Lay hp a s n w) (e : pf hp a 0 2 (vi x) hp') : Lay hp' a s n x := by
  obtain ⟨h1, h2, h3, h4, h5⟩ := h
  exact ⟨e.2.2 0 _ (by decide) h1, e.2.2 1 _ (by decide) h2, e.2.1, (e.1 _ (by omega)).trans h4, (e.1 _ (by omega)).trans h5⟩
theorem Lay.ups {hp : HP} {a : Nat} {s n s' : Nat → Int} {w : Nat} (h : Lay hp a s n w) : Lay (up hp (a + 1) (ar 0 8 s')) a s' n w := by
  obtain ⟨h1, h2, h3, h4, h5⟩ := h
  exact ⟨h1.up (by omega), h2.up (by omega), h3.up (by omega), up_s _ _ _, (up_n _ _ (by omega)).trans h5⟩
theorem Lay.upn {hp : HP} {a : Nat} {s n n' : Nat → Int} {w : Nat} (h : Lay hp a s n w) : Lay (up hp (a + 2) (ar 0 112 n')) a s n' w := by
  obtain ⟨h1, h2, h3, h4, h5⟩ := h
  exact ⟨h1.up (by omega), h2.up (by omega), h3.up (by omega), (up_n _ _ (by omega)).trans h4, up_s _ _ _⟩

set_option maxRecDepth 4000 in
theorem t_empty {G : GL} {d : Nat} {hp : HP} {sz : Nat} {a : Nat} {s n : Nat → Int} {w : Nat} (L : Lay hp a s n w) (hz : a + 2 < sz) {x : Nat} : Ct G (d + 1) 0 0 mX0_empty [vr a, vi x] hp sz (Vd (fun h => Fr hp h a (a + 2) ∧ ∃ s' n', Lay h a s' n' x ∧ (∀ j, j < 8 → s' j = 0) ∧ ∀ j, j < 112 → n' j = 0) sz) := by
  show Ex _ _ _ _ _ _ [vr a, vi x] _ _ _ _
  obtain ⟨L1, L2, L3, L4, L5⟩ := id L
  have hob := L.ob
  refine x_aload_n (pc := 0) dX0_empty_0 rfl ?_
  refine x_iload_n (pc := 1) dX0_empty_1 rfl ?_
  refine x_pfi (pc := 2) dX0_empty_2 pX0_18 (by assumption) (by omega) (fun hp2 hf2 => ?_)
  have La := L.pfw hf2
  obtain ⟨L1, L2, L3, L4, L5⟩ := id La
  refine x_aload_n (pc := 5) dX0_empty_5 rfl ?_
  refine x_gf (pc := 6) dX0_empty_6 fX0_9 (by assumption) (by omega) ?_
  refine x_iconst (pc := 9) dX0_empty_9 ?_
  refine x_q2 (pc := 10) dX0_empty_10 wJ7_fill_53178 sJ7_fill_53178 kX0_22 (by decide) rfl (Nat.le_of_ble_eq_true rfl) (t_fill L4 (by omega) (by omega)) (fun h10 e10 => ?_)
  subst e10
  have Lb := La.ups (s' := fun j => if j < 8 then 0 else s j)
  obtain ⟨L1, L2, L3, L4, L5⟩ := id Lb
  refine x_aload_n (pc := 13) dX0_empty_13 rfl ?_
  refine x_gf (pc := 14) dX0_empty_14 fX0_15 (by assumption) (by omega) ?_
  refine x_iconst (pc := 17) dX0_empty_17 ?_
  refine x_q2 (pc := 18) dX0_empty_18 wJ7_fill_53178 sJ7_fill_53178 kX0_22 (by decide) rfl (Nat.le_of_ble_eq_true rfl) (t_fill L5 (by omega) (by omega)) (fun h18 e18 => ?_)
  subst e18
  have Lc := Lb.upn (n' := fun j => if j < 112 then 0 else n j)
  refine x_vret (pc := 21) dX0_empty_21 rfl ⟨rfl, rfl, ((Fr.rf.pf hf2 (by omega) (by omega)).up (by omega) (by omega)).up (by omega) (by omega), _, _, Lc, fun j hj => if_pos hj, fun j hj => if_pos hj⟩

set_option maxRecDepth 4000 in
theorem t_copy {G : GL} {d : Nat} {hp : HP} {sz : Nat} {a : Nat} {s n : Nat → Int} {w : Nat} (L : Lay hp a s n w) (hz : a + 2 < sz) {b : Nat} {s' n' : Nat → Int} {w' : Nat} (K : Lay hp b s' n' w') (hy : b + 2 < sz) (hab : b + 2 < a ∨ a + 2 < b) : Ct G (d + 2) 0 0 mX0_copy [vr a, vr b] hp sz (Vd (fun h => Fr hp h a (a + 2) ∧ ∃ s1 n1, Lay h a s1 n1 w' ∧ (∀ j, j < 8 → s1 j = s' j) ∧ ∀ j, j < 112 → n1 j = n' j) sz) := by
  show Ex _ _ _ _ _ _ [vr a, vr b] _ _ _ _
  obtain ⟨L1, L2, L3, L4, L5⟩ := id L
  have hob := L.ob
  obtain ⟨K1, K2, K3, K4, K5⟩ := id K
  refine x_aload_n (pc := 0) dX0_copy_0 rfl ?_
  refine x_aload_n (pc := 1) dX0_copy_1 rfl ?_
  refine x_gf (pc := 2) dX0_copy_2 fX0_18 (by assumption) (by omega) ?_
  refine x_pfi (pc := 5) dX0_copy_5 pX0_18 (by assumption) (by omega) (fun hp5 hf5 => ?_)
  have La := L.pfw hf5
  have Ka := K.keep (hp' := hp5) (fun x h1 h2 => hf5.1 x (by omega))
  obtain ⟨L1, L2, L3, L4, L5⟩ := id La
  obtain ⟨K1, K2, K3, K4, K5⟩ := id Ka
  refine x_aload_n (pc := 8) dX0_copy_8 rfl ?_
  refine x_gf (pc := 9) dX0_copy_9 fX0_9 (by assumption) (by omega) ?_
  refine x_iconst (pc := 12) dX0_copy_12 ?_
  refine x_aload_n (pc := 13) dX0_copy_13 rfl ?_
  refine x_gf (pc := 14) dX0_copy_14 fX0_9 (by assumption) (by omega) ?_
  refine x_iconst (pc := 17) dX0_copy_17 ?_
  refine x_bipush (pc := 18) dX0_copy_18 (by decide) ?_
  refine x_copy (pc := 20) dX0_copy_20 kX0_28 nat_copy st_copy ci_sys (by omega) (Nat.le_of_ble_eq_true rfl) (by omega) (by omega) (by omega) K4 L4 (by omega) (by omega) (by omega) ?_
  have Lb := La.ups (s' := fun j => if j < (8 : Int).toNat then s' j else s j)
  have Kb := Ka.keep (hp' := up hp5 (a + 1) (ar 0 8 (fun j => if j < (8 : Int).toNat then s' j else s j))) (fun x h1 h2 => up_n _ _ (by omega))
  obtain ⟨L1, L2, L3, L4, L5⟩ := id Lb
  obtain ⟨K1, K2, K3, K4, K5⟩ := id Kb
  refine x_aload_n (pc := 23) dX0_copy_23 rfl ?_
  refine x_gf (pc := 24) dX0_copy_24 fX0_15 (by assumption) (by omega) ?_
  refine x_iconst (pc := 27) dX0_copy_27 ?_
  refine x_aload_n (pc := 28) dX0_copy_28 rfl ?_
  refine x_gf (pc := 29) dX0_copy_29 fX0_15 (by assumption) (by omega) ?_
  refine x_iconst (pc := 32) dX0_copy_32 ?_
  refine x_bipush (pc := 33) dX0_copy_33 (by decide) ?_
  refine x_copy (pc := 35) dX0_copy_35 kX0_28 nat_copy st_copy ci_sys (by omega) (Nat.le_of_ble_eq_true rfl) (by omega) (by omega) (by omega) K5 L5 (by omega) (by omega) (by omega) ?_
  have Lc := Lb.upn (n' := fun j => if j < (112 : Int).toNat then n' j else n j)
  refine x_vret (pc := 38) dX0_copy_38 rfl ⟨rfl, rfl, ((Fr.rf.pf hf5 (by omega) (by omega)).up (by omega) (by omega)).up (by omega) (by omega), _, _, Lc, fun j hj => if_pos hj, fun j hj => if_pos hj⟩

set_option maxRecDepth 4000 in
theorem t_numberBeside {G : GL} {d : Nat} {hp : HP} {sz : Nat} {a : Nat} {s n : Nat → Int} {w : Nat} (L : Lay hp a s n w) (hz : a + 2 < sz) {k r c : Nat} (b : Bool) (hk : k < 7) (hr : r < 4) (hc : c < 4) : Ct G (d + 1) 0 0 mX0_numberBeside [vr a, vi k, vi (bz b), vi r, vi c] hp sz (Rd (some (vi (if b then n (k * 16 + r * 4 + c) else n (k * 16 + c * 4 + r)))) hp sz) := by
  show Ex _ _ _ _ _ _ [vr a, vi k, vi (bz b), vi r, vi c] _ _ _ _
  obtain ⟨L1, L2, L3, L4, L5⟩ := id L
  have hob := L.ob
  refine x_iload_n (pc := 0) dX0_numberBeside_0 rfl ?_
  refine x_if_eq (pc := 1) (tgt := 15) dX0_numberBeside_1 (by decide) (by rcases bz_01 b with h | h <;> rw [h] <;> decide) (fun c1 => ?_) (fun c1 => ?_)
  · have h9 : b = false := by cases hh : b <;> simp_all [bz]
    subst h9
    refine x_aload_n (pc := 15) dX0_numberBeside_15 rfl ?_
    refine x_iload_n (pc := 16) dX0_numberBeside_16 rfl ?_
    refine x_iload (pc := 17) dX0_numberBeside_17 rfl ?_
    refine x_iload_n (pc := 19) dX0_numberBeside_19 rfl ?_
    refine x_w3 (pc := 20) dX0_numberBeside_20 wX0_number iX0_number kX0_45 (by decide) rfl (Nat.le_of_ble_eq_true rfl) (by assumption) (by omega) (t_number L hz hk hc hr) ?_
    refine x_iret (pc := 23) dX0_numberBeside_23 rfl ⟨rfl, rfl, rfl⟩
  · have h9 : b = true := by cases hh : b <;> simp_all [bz]
    subst h9
    refine x_aload_n (pc := 4) dX0_numberBeside_4 rfl ?_
    refine x_iload_n (pc := 5) dX0_numberBeside_5 rfl ?_
    refine x_iload_n (pc := 6) dX0_numberBeside_6 rfl ?_
    refine x_iload (pc := 7) dX0_numberBeside_7 rfl ?_
    refine x_w3 (pc := 9) dX0_numberBeside_9 wX0_number iX0_number kX0_45 (by decide) rfl (Nat.le_of_ble_eq_true rfl) (by assumption) (by omega) (t_number L hz hk hr hc) ?_
    refine x_goto (pc := 12) (tgt := 23) dX0_numberBeside_12 (by decide) ?_
    refine x_iret (pc := 23) dX0_numberBeside_23 rfl ⟨rfl, rfl, rfl⟩

theorem l_reverse {G : GL} {d : Nat} {sz a k w : Nat} {s : Nat → Int} {Q : Option AV → HP → Nat → Prop} (hz : a + 2 < sz) (hk : k < 7) : ∀ i, i ≤ 16 → ∀ (hp : HP) (n : Nat → Int), Lay hp a s n w → (∀ h n1, Fr hp h a (a + 2) → Lay h a s n1 w → (∀ j, n1 j = if k * 16 + i ≤ j ∧ j < k * 16 + 16 then 0 else n j) → Q none h sz) → Ex G d 0 0 mX0_reverse 14 [vr a, vi k, vi i] [] hp sz Q := by
  refine down (fun hp n L hq => ?_) (fun i hi ih hp n L hq => ?_)
  · refine x_iload_n (pc := 14) dX0_reverse_14 rfl ?_
    refine x_bipush (pc := 15) dX0_reverse_15 (by decide) ?_
    refine x_icmp_ge (pc := 17) (tgt := 38) dX0_reverse_17 (by decide) (by omega) (by omega) (fun c17 => ?_) (fun c17 => ?_)
    · refine x_vret (pc := 38) dX0_reverse_38 rfl (hq hp n Fr.rf L (fun j => by rw [if_neg (by omega)]))
    · exact absurd c17 (by omega)
  · obtain ⟨L1, L2, L3, L4, L5⟩ := id L
    refine x_iload_n (pc := 14) dX0_reverse_14 rfl ?_
    refine x_bipush (pc := 15) dX0_reverse_15 (by decide) ?_
    refine x_icmp_ge (pc := 17) (tgt := 38) dX0_reverse_17 (by decide) (by omega) (by omega) (fun c17 => ?_) (fun c17 => ?_)
    · exact absurd c17 (by omega)
    · refine x_aload_n (pc := 20) dX0_reverse_20 rfl ?_
      refine x_gf (pc := 21) dX0_reverse_21 fX0_15 (by assumption) (by omega) ?_
      refine x_iload_n (pc := 24) dX0_reverse_24 rfl ?_
      refine x_bipush (pc := 25) dX0_reverse_25 (by decide) ?_
      refine x_imul (pc := 27) dX0_reverse_27 ?_
      refine x_iload_n (pc := 28) dX0_reverse_28 rfl ?_
      refine x_iadd (pc := 29) dX0_reverse_29 ?_
      refine x_iconst (pc := 30) dX0_reverse_30 ?_
      refine x_is (pc := 31) (j := k * 16 + i) dX0_reverse_31 (by assumption) (by omega) (by omega) (by omega) ?_
      refine x_iinc (pc := 32) dX0_reverse_32 rfl (by decide) rfl ?_
      show Ex _ _ _ _ _ _ [_, _, _] _ _ _ _
      refine x_goto (pc := 35) (tgt := 14) dX0_reverse_35 (by decide) ?_
      exact ih _ _ (L.upn (n' := up n (k * 16 + i) 0)) (fun h n1 f1 l1 e1 => hq h n1 ((Fr.rf.up (by omega) (by omega)).tr f1) l1 (fun j => by
        rw [e1 j]
        by_cases h1 : j = k * 16 + i
        · subst h1; rw [if_neg (by omega), up_s, if_pos (by omega)]
        · rw [up_n _ _ h1]
          by_cases h2 : k * 16 + (i + 1) ≤ j ∧ j < k * 16 + 16
          · rw [if_pos h2, if_pos (by omega)]
          · rw [if_neg h2, if_neg (by omega)]))

theorem xr_nat {w k : Nat} (hw : w < 128) (hk : k < 7) : xr (w : Int) (2 ^ ((k : Int)).toNat) = ((w ^^^ 2 ^ k : Nat) : Int) := by
  rw [Int.toNat_natCast]
  have key : ∀ w : Nat, w < 128 → ∀ k : Nat, k < 7 → xr (w : Int) (2 ^ k) = ((w ^^^ 2 ^ k : Nat) : Int) := by decide +kernel
  exact key w hw k hk

set_option maxRecDepth 4000 in
theorem t_reverse {G : GL} {d : Nat} {hp : HP} {sz : Nat} {a : Nat} {s n : Nat → Int} {w : Nat} (L : Lay hp a s n w) (hz : a + 2 < sz) {k : Nat} (hk : k < 7) (hw : w < 128) : Ct G d 0 0 mX0_reverse [vr a, vi k] hp sz (Vd (fun h => Fr hp h a (a + 2) ∧ ∃ n1 w1, Lay h a s n1 w1 ∧ w1 = w ^^^ 2 ^ k ∧ ∀ j, n1 j = if k * 16 ≤ j ∧ j < k * 16 + 16 then 0 else n j) sz) := by
  show Ex _ _ _ _ _ _ [vr a, vi k, vu] _ _ _ _
  obtain ⟨L1, L2, L3, L4, L5⟩ := id L
  have hob := L.ob
  refine x_aload_n (pc := 0) dX0_reverse_0 rfl ?_
  refine x_dupr (pc := 1) dX0_reverse_1 ?_
  refine x_gf (pc := 2) dX0_reverse_2 fX0_18 (by assumption) (by omega) ?_
  refine x_iconst (pc := 5) dX0_reverse_5 ?_
  refine x_iload_n (pc := 6) dX0_reverse_6 rfl ?_
  refine x_ishl1 (pc := 7) dX0_reverse_7 (by omega) ?_
  refine x_ixor (pc := 8) dX0_reverse_8 ?_
  rw [xr_nat hw hk]
  refine x_pfi (pc := 9) dX0_reverse_9 pX0_18 (by assumption) (by omega) (fun hp9 hf9 => ?_)
  have La := L.pfw hf9
  obtain ⟨L1, L2, L3, L4, L5⟩ := id La
  refine x_iconst (pc := 12) dX0_reverse_12 ?_
  refine x_istore_n (pc := 13) dX0_reverse_13 (by decide) rfl ?_
  show Ex _ _ _ _ _ _ [_, _, _] _ _ _ _
  exact l_reverse hz hk 0 (by omega) _ _ La (fun h n1 f1 l1 e1 => ⟨rfl, rfl, (Fr.rf.pf hf9 (by omega) (by omega)).tr f1, n1, _, l1, rfl, e1⟩)

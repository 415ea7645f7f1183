def prm : Nat → Int
  | 0 => 2
  | 1 => 3
  | 2 => 5
  | 3 => 7
  | 4 => 11
  | _ => 13
def gk (x : Int) : Nat → Int
  | 0 => 2
  | k + 1 => if prm k ≤ x then prm k else gk x k
theorem prm_rg : ∀ k, k < 6 → 2 ≤ prm k ∧ prm k ≤ 13 := by decide
theorem gk_P (x : Int) : ∃ p : Nat, gk x 6 = (p : Int) ∧ isP p := by
  have h : ∀ k, k ≤ 6 → ∃ p : Nat, gk x k = (p : Int) ∧ isP p := by
    intro k
    induction k with
    | zero => intro _; exact ⟨2, rfl, Or.inl rfl⟩
    | succ k ih =>
      intro hk
      unfold gk
      by_cases e : prm k ≤ x
      · rw [if_pos e]
        rcases (show k = 0 ∨ k = 1 ∨ k = 2 ∨ k = 3 ∨ k = 4 ∨ k = 5 by omega) with rfl | rfl | rfl | rfl | rfl | rfl
        · exact ⟨2, rfl, by unfold isP; omega⟩
        · exact ⟨3, rfl, by unfold isP; omega⟩
        · exact ⟨5, rfl, by unfold isP; omega⟩
        · exact ⟨7, rfl, by unfold isP; omega⟩
        · exact ⟨11, rfl, by unfold isP; omega⟩
        · exact ⟨13, rfl, by unfold isP; omega⟩
      · rw [if_neg e]
        exact ih (by omega)
  exact h 6 (Nat.le_refl _)

theorem l_gp {G : GL} {d : Nat} {hp : HP} {sz : Nat} {f : Nat → Int} (hX : hp 1000001 = ar 0 6 f) (hf : ∀ i, i < 6 → f i = prm i) {x : Int} (hx : -2147483648 ≤ x ∧ x < 2147483648) {Q : Option AV → HP → Nat → Prop} (hq : Q (some (vi (gk x 6))) hp sz) : ∀ k, k ≤ 6 → ∀ v5 : AV, Ex G d 0 0 mX6_greatestPrime 16 [vi x, vi (gk x k), vr 1000001, vi 6, vi k, v5] [] hp sz Q := by
  refine down (fun v5 => ?_) (fun k hk ih v5 => ?_)
  · refine x_iload (pc := 16) dX6_greatestPrime_16 rfl ?_
    refine x_iload_n (pc := 18) dX6_greatestPrime_18 rfl ?_
    refine x_icmp_ge (pc := 19) (tgt := 43) dX6_greatestPrime_19 (by decide) (by omega) (by omega) (fun c19 => ?_) (fun c19 => ?_)
    · refine x_iload_n (pc := 43) dX6_greatestPrime_43 rfl ?_
      refine x_iret (pc := 44) dX6_greatestPrime_44 rfl hq
    · exact absurd c19 (by omega)
  · refine x_iload (pc := 16) dX6_greatestPrime_16 rfl ?_
    refine x_iload_n (pc := 18) dX6_greatestPrime_18 rfl ?_
    refine x_icmp_ge (pc := 19) (tgt := 43) dX6_greatestPrime_19 (by decide) (by omega) (by omega) (fun c19 => ?_) (fun c19 => ?_)
    · exact absurd c19 (by omega)
    · refine x_aload_n (pc := 22) dX6_greatestPrime_22 rfl ?_
      refine x_iload (pc := 23) dX6_greatestPrime_23 rfl ?_
      refine x_ialdX (pc := 25) (j := 1) dX6_greatestPrime_25 (by omega) hX (by omega) (by omega) ?_
      rw [show f ((k : Int)).toNat = prm k from hf _ (by omega)]
      have hpr := prm_rg k (by omega)
      refine x_istore (pc := 26) dX6_greatestPrime_26 (by decide) rfl ?_
      show Ex _ _ _ _ _ _ [_, _, _, _, _, _] _ _ _ _
      refine x_iload (pc := 28) dX6_greatestPrime_28 rfl ?_
      refine x_iload_n (pc := 30) dX6_greatestPrime_30 rfl ?_
      refine x_icmp_gt (pc := 31) (tgt := 37) dX6_greatestPrime_31 (by decide) (by omega) (by omega) (fun c31 => ?_) (fun c31 => ?_)
      · refine x_iinc (pc := 37) dX6_greatestPrime_37 rfl (by decide) rfl ?_
        show Ex _ _ _ _ _ _ [_, _, _, _, _, _] _ _ _ _
        refine x_goto (pc := 40) (tgt := 16) dX6_greatestPrime_40 (by decide) ?_
        first
          | exact (show gk x (k + 1) = prm k by rw [gk, if_pos c31]) ▸ ih _
          | exact (show gk x (k + 1) = gk x k by rw [gk, if_neg (by omega)]) ▸ ih _
      · refine x_iload (pc := 34) dX6_greatestPrime_34 rfl ?_
        refine x_istore_n (pc := 36) dX6_greatestPrime_36 (by decide) rfl ?_
        show Ex _ _ _ _ _ _ [_, _, _, _, _, _] _ _ _ _
        refine x_iinc (pc := 37) dX6_greatestPrime_37 rfl (by decide) rfl ?_
        show Ex _ _ _ _ _ _ [_, _, _, _, _, _] _ _ _ _
        refine x_goto (pc := 40) (tgt := 16) dX6_greatestPrime_40 (by decide) ?_
        first
          | exact (show gk x (k + 1) = prm k by rw [gk, if_pos c31]) ▸ ih _
          | exact (show gk x (k + 1) = gk x k by rw [gk, if_neg (by omega)]) ▸ ih _

set_option maxRecDepth 4000 in
theorem t_gp {G : GL} {d : Nat} {hp : HP} {sz : Nat} {f : Nat → Int} (hX : hp 1000001 = ar 0 6 f) (hf : ∀ i, i < 6 → f i = prm i) {x : Int} (hx : -2147483648 ≤ x ∧ x < 2147483648) : Ct G d 0 0 mX6_greatestPrime [vi x] hp sz (Rd (some (vi (gk x 6))) hp sz) := by
  show Ex _ _ _ _ _ _ [vi x, vu, vu, vu, vu, vu] _ _ _ _
  refine x_gets (pc := 0) (j := 1) dX6_greatestPrime_0 (Or.inl ⟨rfl, rfl⟩) fX6_225 ?_
  refine x_iconst (pc := 3) dX6_greatestPrime_3 ?_
  refine x_ialdX (pc := 4) (j := 1) dX6_greatestPrime_4 (by omega) hX (by omega) (by omega) ?_
  rw [show f ((0 : Int)).toNat = gk x 0 from hf 0 (by omega)]
  refine x_istore_n (pc := 5) dX6_greatestPrime_5 (by decide) rfl ?_
  show Ex _ _ _ _ _ _ [_, _, _, _, _, _] _ _ _ _
  refine x_gets (pc := 6) (j := 1) dX6_greatestPrime_6 (Or.inl ⟨rfl, rfl⟩) fX6_225 ?_
  refine x_astore_n (pc := 9) dX6_greatestPrime_9 (by decide) rfl ?_
  show Ex _ _ _ _ _ _ [_, _, _, _, _, _] _ _ _ _
  refine x_aload_n (pc := 10) dX6_greatestPrime_10 rfl ?_
  refine x_alenX (pc := 11) (j := 1) dX6_greatestPrime_11 (by omega) hX ?_
  refine x_istore_n (pc := 12) dX6_greatestPrime_12 (by decide) rfl ?_
  show Ex _ _ _ _ _ _ [_, _, _, _, _, _] _ _ _ _
  refine x_iconst (pc := 13) dX6_greatestPrime_13 ?_
  refine x_istore (pc := 14) dX6_greatestPrime_14 (by decide) rfl ?_
  show Ex _ _ _ _ _ _ [_, _, _, _, _, _] _ _ _ _
  exact l_gp hX hf hx ⟨rfl, rfl, rfl⟩ 0 (by omega) _

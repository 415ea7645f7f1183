/-! the model's square -/
def TW (P : Nat → Nat) (i k : Nat) : Int := VM P (fun _ => 2) (fun _ => 1) i k
theorem tw_d (P : Nat → Nat) {i k : Nat} (h : i = k) : TW P i k = 2 := if_pos h
theorem tw_a (P : Nat → Nat) {i k : Nat} (h : i ≠ k) (q : (0 < i ∧ P i = k) ∨ (0 < k ∧ P k = i)) : TW P i k = -1 := by
  unfold TW VM ajT
  rw [if_neg h, if_pos (by simpa using q)]
theorem tw_0 (P : Nat → Nat) {i k : Nat} (h : i ≠ k) (q : ¬ (0 < i ∧ P i = k)) (q2 : ¬ (0 < k ∧ P k = i)) : TW P i k = 0 := by
  unfold TW VM ajT
  rw [if_neg h, if_neg (by simp; exact ⟨fun a b => q ⟨a, b⟩, fun a b => q2 ⟨a, b⟩⟩)]
theorem tw_abs (P : Nat → Nat) (i k : Nat) : (TW P i k).natAbs ≤ 2 := by
  unfold TW VM
  split
  · show (2 : Int).natAbs ≤ 2; decide
  · split
    · show (-1 : Int).natAbs ≤ 2; decide
    · show (0 : Int).natAbs ≤ 2; decide
theorem tw_sym (P : Nat → Nat) (i k : Nat) : TW P i k = TW P k i := by
  unfold TW VM
  by_cases e : i = k
  · rw [if_pos e, if_pos e.symm]
  · rw [if_neg e, if_neg (Ne.symm e)]
    unfold ajT
    rw [Bool.or_comm]
theorem bt_i (H i : Nat) : ((H : Int) / 2 ^ ((i : Nat) : Int).toNat) % 2 ^ 1 = if bt H i then 1 else 0 := by
  rw [Int.toNat_natCast]
  have e : ((H : Int) / 2 ^ i) % 2 ^ 1 = ((H / 2 ^ i % 2 : Nat) : Int) := by
    rw [Int.natCast_emod, Int.natCast_ediv, Int.natCast_pow]
    rfl
  rw [e]
  unfold bt
  have := Nat.mod_lt (H / 2 ^ i) (show 2 > 0 by decide)
  by_cases q : H / 2 ^ i % 2 = 1
  · rw [q]; rfl
  · rw [if_neg (by simpa using q)]
    omega
def SqX (h : HP) (r : Nat → Nat) (g : Nat → Nat → Int) : Prop := (∃ f, h 403 = rr 6 9 f ∧ ∀ k, k < 9 → f k = some (404 + r k)) ∧ (∀ k, k < 9 → r k < 9) ∧ (∀ i k, i < 9 → k < 9 → r i = r k → i = k) ∧ ∀ k, k < 9 → h (404 + r k) = ar 1 9 (g k)
theorem SqX.put {h : HP} {r : Nat → Nat} {g : Nat → Nat → Int} (q : SqX h r g) {k : Nat} (hk : k < 9) (u : Nat → Int) : SqX (up h (404 + r k) (ar 1 9 u)) r (up g k u) := by
  obtain ⟨⟨f, q1, q2⟩, q3, q4, q5⟩ := q
  refine ⟨⟨f, (up_n _ _ (by omega)).trans q1, q2⟩, q3, q4, fun j hj => ?_⟩
  by_cases e : j = k
  · subst e; rw [up_s, up_s]
  · rw [up_n _ _ e, up_n _ _ (fun z => e (q4 j k hj hk (by omega)))]
    exact q5 j hj
theorem SqX.keep {h h' : HP} {r : Nat → Nat} {g : Nat → Nat → Int} (q : SqX h r g) (e : ∀ x, 403 ≤ x → x ≤ 412 → h' x = h x) : SqX h' r g := by
  obtain ⟨⟨f, q1, q2⟩, q3, q4, q5⟩ := q
  exact ⟨⟨f, (e _ (by omega) (by omega)).trans q1, q2⟩, q3, q4, fun j hj => (e _ (by omega) (by have := q3 j hj; omega)).trans (q5 j hj)⟩

set_option maxRecDepth 4000 in
theorem m_twice {G : GL} {d : Nat} {hp : HP} {sz : Nat} {pa : Nat → Int} {P : Nat → Nat} {n : Nat} (hn : 1 ≤ n ∧ n ≤ 9) (hpn : ∀ j, 1 ≤ j → j < n → pa j = (P j : Int) ∧ P j < j) (hz : 615 ≤ sz) (ua : hp 413 = ar 0 9 pa) {i k : Nat} (hi : i < n) (hk : k < n) : Ct G d 0 0 mX7_twice [vi n, vr 413, vi i, vi k] hp sz (Rd (some (vl (TW P i k))) hp sz) := by
  show Ex _ _ _ _ _ _ [vi n, vr 413, vi i, vi k] _ _ _ _
  refine x_iload_n (pc := 0) dX7_twice_0 rfl ?_
  refine x_iload_n (pc := 1) dX7_twice_1 rfl ?_
  refine x_icmp_ne (pc := 2) (tgt := 9) dX7_twice_2 (by decide) (by omega) (by omega) (fun c2 => ?_) (fun c2 => ?_)
  · refine x_iload_n (pc := 9) dX7_twice_9 rfl ?_
    refine x_if_le (pc := 10) (tgt := 20) dX7_twice_10 (by decide) (by omega) (fun c10 => ?_) (fun c10 => ?_)
    · refine x_iload_n (pc := 20) dX7_twice_20 rfl ?_
      refine x_if_le (pc := 21) (tgt := 37) dX7_twice_21 (by decide) (by omega) (fun c21 => ?_) (fun c21 => ?_)
      · refine x_lconst (pc := 37) dX7_twice_37 ?_
        refine x_lret (pc := 38) dX7_twice_38 rfl ⟨by first | exact absurd c2 (by omega) | exact congrArg (fun z => some (vl z)) (tw_0 P (by omega) (by omega) (by omega)).symm | exact congrArg (fun z => some (vl z)) (tw_a P (by omega) (Or.inl ⟨by omega, by omega⟩)).symm | exact congrArg (fun z => some (vl z)) (tw_a P (by omega) (Or.inr ⟨by omega, by omega⟩)).symm, rfl, rfl⟩
      · refine x_aload_n (pc := 24) dX7_twice_24 rfl ?_
        refine x_iload_n (pc := 25) dX7_twice_25 rfl ?_
        refine x_il (pc := 26) dX7_twice_26 (by assumption) (by omega) rfl (by omega) ?_
        have hp2 := hpn k (by omega) hk
        rw [hp2.1]
        refine x_iload_n (pc := 27) dX7_twice_27 rfl ?_
        refine x_icmp_ne (pc := 28) (tgt := 37) dX7_twice_28 (by decide) (by omega) (by omega) (fun c28 => ?_) (fun c28 => ?_)
        · refine x_lconst (pc := 37) dX7_twice_37 ?_
          refine x_lret (pc := 38) dX7_twice_38 rfl ⟨by first | exact absurd c2 (by omega) | exact congrArg (fun z => some (vl z)) (tw_0 P (by omega) (by omega) (by omega)).symm | exact congrArg (fun z => some (vl z)) (tw_a P (by omega) (Or.inl ⟨by omega, by omega⟩)).symm | exact congrArg (fun z => some (vl z)) (tw_a P (by omega) (Or.inr ⟨by omega, by omega⟩)).symm, rfl, rfl⟩
        · refine x_ldc2 (pc := 31) dX7_twice_31 lcX7_204 ?_
          refine x_goto (pc := 34) (tgt := 38) dX7_twice_34 (by decide) ?_
          refine x_lret (pc := 38) dX7_twice_38 rfl ⟨by first | exact absurd c2 (by omega) | exact congrArg (fun z => some (vl z)) (tw_0 P (by omega) (by omega) (by omega)).symm | exact congrArg (fun z => some (vl z)) (tw_a P (by omega) (Or.inl ⟨by omega, by omega⟩)).symm | exact congrArg (fun z => some (vl z)) (tw_a P (by omega) (Or.inr ⟨by omega, by omega⟩)).symm, rfl, rfl⟩
    · refine x_aload_n (pc := 13) dX7_twice_13 rfl ?_
      refine x_iload_n (pc := 14) dX7_twice_14 rfl ?_
      refine x_il (pc := 15) dX7_twice_15 (by assumption) (by omega) rfl (by omega) ?_
      have hp1 := hpn i (by omega) hi
      rw [hp1.1]
      refine x_iload_n (pc := 16) dX7_twice_16 rfl ?_
      refine x_icmp_eq (pc := 17) (tgt := 31) dX7_twice_17 (by decide) (by omega) (by omega) (fun c17 => ?_) (fun c17 => ?_)
      · refine x_ldc2 (pc := 31) dX7_twice_31 lcX7_204 ?_
        refine x_goto (pc := 34) (tgt := 38) dX7_twice_34 (by decide) ?_
        refine x_lret (pc := 38) dX7_twice_38 rfl ⟨by first | exact absurd c2 (by omega) | exact congrArg (fun z => some (vl z)) (tw_0 P (by omega) (by omega) (by omega)).symm | exact congrArg (fun z => some (vl z)) (tw_a P (by omega) (Or.inl ⟨by omega, by omega⟩)).symm | exact congrArg (fun z => some (vl z)) (tw_a P (by omega) (Or.inr ⟨by omega, by omega⟩)).symm, rfl, rfl⟩
      · refine x_iload_n (pc := 20) dX7_twice_20 rfl ?_
        refine x_if_le (pc := 21) (tgt := 37) dX7_twice_21 (by decide) (by omega) (fun c21 => ?_) (fun c21 => ?_)
        · refine x_lconst (pc := 37) dX7_twice_37 ?_
          refine x_lret (pc := 38) dX7_twice_38 rfl ⟨by first | exact absurd c2 (by omega) | exact congrArg (fun z => some (vl z)) (tw_0 P (by omega) (by omega) (by omega)).symm | exact congrArg (fun z => some (vl z)) (tw_a P (by omega) (Or.inl ⟨by omega, by omega⟩)).symm | exact congrArg (fun z => some (vl z)) (tw_a P (by omega) (Or.inr ⟨by omega, by omega⟩)).symm, rfl, rfl⟩
        · refine x_aload_n (pc := 24) dX7_twice_24 rfl ?_
          refine x_iload_n (pc := 25) dX7_twice_25 rfl ?_
          refine x_il (pc := 26) dX7_twice_26 (by assumption) (by omega) rfl (by omega) ?_
          have hp2 := hpn k (by omega) hk
          rw [hp2.1]
          refine x_iload_n (pc := 27) dX7_twice_27 rfl ?_
          refine x_icmp_ne (pc := 28) (tgt := 37) dX7_twice_28 (by decide) (by omega) (by omega) (fun c28 => ?_) (fun c28 => ?_)
          · refine x_lconst (pc := 37) dX7_twice_37 ?_
            refine x_lret (pc := 38) dX7_twice_38 rfl ⟨by first | exact absurd c2 (by omega) | exact congrArg (fun z => some (vl z)) (tw_0 P (by omega) (by omega) (by omega)).symm | exact congrArg (fun z => some (vl z)) (tw_a P (by omega) (Or.inl ⟨by omega, by omega⟩)).symm | exact congrArg (fun z => some (vl z)) (tw_a P (by omega) (Or.inr ⟨by omega, by omega⟩)).symm, rfl, rfl⟩
          · refine x_ldc2 (pc := 31) dX7_twice_31 lcX7_204 ?_
            refine x_goto (pc := 34) (tgt := 38) dX7_twice_34 (by decide) ?_
            refine x_lret (pc := 38) dX7_twice_38 rfl ⟨by first | exact absurd c2 (by omega) | exact congrArg (fun z => some (vl z)) (tw_0 P (by omega) (by omega) (by omega)).symm | exact congrArg (fun z => some (vl z)) (tw_a P (by omega) (Or.inl ⟨by omega, by omega⟩)).symm | exact congrArg (fun z => some (vl z)) (tw_a P (by omega) (Or.inr ⟨by omega, by omega⟩)).symm, rfl, rfl⟩
  · refine x_ldc2 (pc := 5) dX7_twice_5 lcX7_202 ?_
    refine x_lret (pc := 8) dX7_twice_8 rfl ⟨by rw [tw_d P (by omega)], rfl, rfl⟩

theorem k_dfi {G : GL} {d sz p N : Nat} (hz : 615 ≤ sz) {pa : Nat → Int} {P : Nat → Nat} {n : Nat} (hn : 1 ≤ n ∧ n ≤ 9) (hpn : ∀ j, 1 ≤ j → j < n → pa j = (P j : Int) ∧ P j < j) {H : Nat} (hH : H < 512) {r : Nat → Nat} {m i : Nat} (hm : m < 9) (hi : i < n) {l7 l8 l9 l10 l11 : AV} {g0 : Nat → Nat → Int} {hp0 : HP} {Q : Option AV → HP → Nat → Prop}
    (hq : ∀ hp g, ModA hp p N → hp 413 = ar 0 9 pa → SqX hp r g → Fr hp0 hp 403 412 → (∀ a, a < m → ∀ b, g a b = g0 a b) → (∀ b, b < cb (bt H) n → g m b = TW P i (eb (bt H) n b)) → Ex G (d + 1) 0 0 mX7_determinant 77 [vr 92, vi n, vi H, vi m, vi i, vi (cb (bt H) n : Nat), vi n, l7, l8, l9, l10, l11] [] hp sz Q) :
    ∀ k, k ≤ n → ∀ hp g, ModA hp p N → hp 413 = ar 0 9 pa → SqX hp r g → Fr hp0 hp 403 412 → (∀ a, a < m → ∀ b, g a b = g0 a b) → (∀ b, b < cb (bt H) k → g m b = TW P i (eb (bt H) n b)) → Ex G (d + 1) 0 0 mX7_determinant 29 [vr 92, vi n, vi H, vi m, vi i, vi (cb (bt H) k : Nat), vi k, l7, l8, l9, l10, l11] [] hp sz Q := by
  refine down (fun hp g C ua sq ff hg hg2 => ?_) (fun k hk ih hp g C ua sq ff hg hg2 => ?_)
  · obtain ⟨C0, C1, C2, C3, C4, C5, C6, C7, C8, C11, C12, C13, C14, C15, C16, C17, C18, C19, C20, C21, C22, C23⟩ := id C
    have hob := C0.ob
    refine x_iload (pc := 29) dX7_determinant_29 rfl ?_
    refine x_iload_n (pc := 31) dX7_determinant_31 rfl ?_
    refine x_icmp_ge (pc := 32) (tgt := 77) dX7_determinant_32 (by decide) (by omega) (by omega) (fun c32 => ?_) (fun c32 => ?_)
    · exact hq hp g C ua sq ff hg hg2
    · exact absurd c32 (by omega)
  · obtain ⟨C0, C1, C2, C3, C4, C5, C6, C7, C8, C11, C12, C13, C14, C15, C16, C17, C18, C19, C20, C21, C22, C23⟩ := id C
    have hob := C0.ob
    have hc := cb_le (bt H) k
    obtain ⟨⟨f, q1, q2⟩, q3, q4, q5⟩ := id sq
    refine x_iload (pc := 29) dX7_determinant_29 rfl ?_
    refine x_iload_n (pc := 31) dX7_determinant_31 rfl ?_
    refine x_icmp_ge (pc := 32) (tgt := 77) dX7_determinant_32 (by decide) (by omega) (by omega) (fun c32 => ?_) (fun c32 => ?_)
    · exact absurd c32 (by omega)
    · refine x_iload_n (pc := 35) dX7_determinant_35 rfl ?_
      refine x_iload (pc := 36) dX7_determinant_36 rfl ?_
      refine x_ishr (pc := 38) dX7_determinant_38 (by omega) (by omega) ?_
      refine x_iconst (pc := 39) dX7_determinant_39 ?_
      refine x_iand 1 (pc := 40) dX7_determinant_40 (by decide) (by decide +kernel) ?_
      rw [bt_i]
      refine x_if_ne (pc := 41) (tgt := 47) dX7_determinant_41 (by decide) (by split <;> omega) (fun c41 => ?_) (fun c41 => ?_)
      · have hb : bt H k = true := by cases e : bt H k <;> simp_all
        refine x_aload_n (pc := 47) dX7_determinant_47 rfl ?_
        refine x_gf (pc := 48) dX7_determinant_48 fX7_66 (by assumption) (by omega) ?_
        refine x_iload_n (pc := 51) dX7_determinant_51 rfl ?_
        refine x_al (pc := 52) dX7_determinant_52 (by assumption) (by omega) rfl (by omega) (q2 m hm) ?_
        refine x_iload (pc := 53) dX7_determinant_53 rfl ?_
        refine x_iload_n (pc := 55) dX7_determinant_55 rfl ?_
        refine x_aload_n (pc := 56) dX7_determinant_56 rfl ?_
        refine x_gf (pc := 57) dX7_determinant_57 fX7_69 (by assumption) (by omega) ?_
        refine x_iload (pc := 60) dX7_determinant_60 rfl ?_
        refine x_iload (pc := 62) dX7_determinant_62 rfl ?_
        refine x_t4 (pc := 64) dX7_determinant_64 wX7_twice sX7_twice kX7_206 (by decide) rfl (Nat.le_of_ble_eq_true rfl) (m_twice hn hpn hz ua hi hk) ?_
        refine x_ls (pc := 67) dX7_determinant_67 (q5 m hm) (by have := q3 m hm; omega) rfl (by omega) ?_
        have r9 := q3 m hm
        have sq2 := sq.put hm (up (g m) (cb (bt H) k) (TW P i k))
        have Cb := C.keep (hp' := up hp (404 + r m) (ar 1 9 (up (g m) (cb (bt H) k) (TW P i k)))) (up_n _ _ (by omega))
        refine x_iinc (pc := 68) dX7_determinant_68 rfl (by decide) rfl ?_
        show Ex _ _ _ _ _ _ [_, _, _, _, _, _, _, _, _, _, _, _] _ _ _ _
        rw [show ((cb (bt H) k : Nat) : Int) + 1 = (cb (bt H) (k + 1) : Nat) from by rw [cb_t hb]; omega]
        refine x_iinc (pc := 71) dX7_determinant_71 rfl (by decide) rfl ?_
        show Ex _ _ _ _ _ _ [_, _, _, _, _, _, _, _, _, _, _, _] _ _ _ _
        refine x_goto (pc := 74) (tgt := 29) dX7_determinant_74 (by decide) ?_
        first
          | exact ih _ _ Cb ((up_n _ _ (by omega)).trans ua) sq2 (ff.up (by omega) (by omega)) (fun a ha b => by rw [up_n _ _ (by omega)]; exact hg a ha b) (fun b hb2 => by
              rw [up_s]
              rw [cb_t hb] at hb2
              by_cases e : b = cb (bt H) k
              · subst e; rw [up_s, eb_at (bt H) n k hk hb]
              · rw [up_n _ _ e]; exact hg2 b (by omega))
          | (rw [show cb (bt H) k = cb (bt H) (k + 1) from (cb_f hb).symm]
             exact ih _ _ C ua sq ff hg (fun b hb2 => hg2 b (by rw [cb_f hb] at hb2; exact hb2)))
      · have hb : bt H k = false := by cases e : bt H k <;> simp_all
        refine x_goto (pc := 44) (tgt := 71) dX7_determinant_44 (by decide) ?_
        refine x_iinc (pc := 71) dX7_determinant_71 rfl (by decide) rfl ?_
        show Ex _ _ _ _ _ _ [_, _, _, _, _, _, _, _, _, _, _, _] _ _ _ _
        refine x_goto (pc := 74) (tgt := 29) dX7_determinant_74 (by decide) ?_
        first
          | exact ih _ _ Cb ((up_n _ _ (by omega)).trans ua) sq2 (ff.up (by omega) (by omega)) (fun a ha b => by rw [up_n _ _ (by omega)]; exact hg a ha b) (fun b hb2 => by
              rw [up_s]
              rw [cb_t hb] at hb2
              by_cases e : b = cb (bt H) k
              · subst e; rw [up_s, eb_at (bt H) n k hk hb]
              · rw [up_n _ _ e]; exact hg2 b (by omega))
          | (rw [show cb (bt H) k = cb (bt H) (k + 1) from (cb_f hb).symm]
             exact ih _ _ C ua sq ff hg (fun b hb2 => hg2 b (by rw [cb_f hb] at hb2; exact hb2)))

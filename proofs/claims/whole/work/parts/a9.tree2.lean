set_option maxRecDepth 4000 in
theorem t_read {G : GL} {d : Nat} {hp : HP} {sz : Nat} (hz : 92 ≤ sz) {pa li ab be : Nat → Int} {s : Int} (ta : TrA hp pa li ab be s) {x : Int} (hx : -2147483648 ≤ x ∧ x < 2147483648) {y : Int} (hy : -2147483648 ≤ y ∧ y < 2147483648) : Ct G d 0 0 mX5_read [vr 87, vi x, vi y] hp sz (Vs (fun v h => ∃ r : Bool, v = vi (bz r) ∧ (r = true ↔ isTr x y) ∧ Fr hp h 87 88 ∧ ∃ pa1 s1, TrA h pa1 li ab be s1 ∧ (r = true → s1 = x ∧ ∀ j, 1 ≤ j → j < x.toNat → pa1 j = (dg y.toNat j : Int))) sz) := by
  show Ex _ _ _ _ _ _ [vr 87, vi x, vi y, vu, vu] _ _ _ _
  obtain ⟨P1, P2, P3, P4, P5, P6, P7, P8, P9⟩ := id ta
  have hob := ta.ob
  refine x_iload_n (pc := 0) dX5_read_0 rfl ?_
  refine x_iconst (pc := 1) dX5_read_1 ?_
  refine x_icmp_lt (pc := 2) (tgt := 15) dX5_read_2 (by decide) (by omega) (by omega) (fun c2 => ?_) (fun c2 => ?_)
  · refine x_iconst (pc := 15) dX5_read_15 ?_
    refine x_zret (pc := 16) dX5_read_16 rfl (Or.inl rfl) ⟨_, rfl, rfl, false, rfl, ⟨fun q => absurd q (by decide), fun q => by have q1 := q.1; have q2 := q.2.1; have q3 := q.2.2.1; omega⟩, Fr.rf, pa, s, ta, fun q => absurd q (by decide)⟩
  · refine x_iload_n (pc := 5) dX5_read_5 rfl ?_
    refine x_bipush (pc := 6) dX5_read_6 (by decide) ?_
    refine x_icmp_gt (pc := 8) (tgt := 15) dX5_read_8 (by decide) (by omega) (by omega) (fun c8 => ?_) (fun c8 => ?_)
    · refine x_iconst (pc := 15) dX5_read_15 ?_
      refine x_zret (pc := 16) dX5_read_16 rfl (Or.inl rfl) ⟨_, rfl, rfl, false, rfl, ⟨fun q => absurd q (by decide), fun q => by have q1 := q.1; have q2 := q.2.1; have q3 := q.2.2.1; omega⟩, Fr.rf, pa, s, ta, fun q => absurd q (by decide)⟩
    · refine x_iload_n (pc := 11) dX5_read_11 rfl ?_
      refine x_if_ge (pc := 12) (tgt := 17) dX5_read_12 (by decide) (by omega) (fun c12 => ?_) (fun c12 => ?_)
      · obtain ⟨n, rfl⟩ : ∃ l : Nat, x = (l : Int) := ⟨x.toNat, by omega⟩
        obtain ⟨P, rfl⟩ : ∃ l : Nat, y = (l : Int) := ⟨y.toNat, by omega⟩
        refine x_aload_n (pc := 17) dX5_read_17 rfl ?_
        refine x_iload_n (pc := 18) dX5_read_18 rfl ?_
        refine x_pfi (pc := 19) dX5_read_19 pX5_24 (by assumption) (by omega) (fun hp19 hf19 => ?_)
        have ta1 := ta.pfs hf19
        refine x_iload_n (pc := 22) dX5_read_22 rfl ?_
        refine x_istore_n (pc := 23) dX5_read_23 (by decide) rfl ?_
        show Ex _ _ _ _ _ _ [_, _, _, _, _] _ _ _ _
        refine x_iconst (pc := 24) dX5_read_24 ?_
        refine x_istore (pc := 25) dX5_read_25 (by decide) rfl ?_
        show Ex _ _ _ _ _ _ [_, _, _, _, _] _ _ _ _
        exact k_read (li := li) (ab := ab) (be := be) (hp0 := hp) hz (by omega) (by omega) (fun h pa1 g1 g2 g3 g4 => ⟨_, rfl, rfl, true, rfl, ⟨fun _ => g3, fun _ => rfl⟩, g2, pa1, _, g1, fun _ => ⟨rfl, fun j h1 h2 => g4 j h1 (by rw [Int.toNat_natCast] at h2; exact h2)⟩⟩) (fun h pa1 g1 g2 g3 => ⟨_, rfl, rfl, false, rfl, ⟨fun q => absurd q (by decide), fun q => absurd q g3⟩, g2, pa1, _, g1, fun q => absurd q (by decide)⟩) 1 (by omega) (Nat.le_refl _) _ pa ta1 (Fr.rf.pf hf19 (by omega) (by omega)) (fun j h1 h2 => by omega)
      · refine x_iconst (pc := 15) dX5_read_15 ?_
        refine x_zret (pc := 16) dX5_read_16 rfl (Or.inl rfl) ⟨_, rfl, rfl, false, rfl, ⟨fun q => absurd q (by decide), fun q => by have q1 := q.1; have q2 := q.2.1; have q3 := q.2.2.1; omega⟩, Fr.rf, pa, s, ta, fun q => absurd q (by decide)⟩

theorem k_isTree {G : GL} {d sz p N : Nat} (hz : 615 ≤ sz) {n P : Nat} (hn : 1 ≤ n ∧ n ≤ 9) (hP : P < 2147483648) {hp0 : HP} {Q : Option AV → HP → Nat → Prop} (hyes : ∀ h pa, ModA h p N → h 413 = ar 0 9 pa → Fr hp0 h 413 413 → isTr n P → (∀ j, 1 ≤ j → j < n → pa j = (dg P j : Int)) → Q (some (vi 1)) h sz) (hno : ∀ h pa, ModA h p N → h 413 = ar 0 9 pa → Fr hp0 h 413 413 → ¬ isTr n P → Q (some (vi 0)) h sz) : ∀ k, k ≤ n → 1 ≤ k → ∀ hp pa, ModA hp p N → hp 413 = ar 0 9 pa → Fr hp0 hp 413 413 → (∀ j, 1 ≤ j → j < k → pa j = (dg P j : Int) ∧ dg P j < j) → Ex G (d + 1) 0 0 mX7_isTree 21 [vr 92, vi n, vi P, vi (lq P (k - 1) : Nat), vi k] [] hp sz Q := by
  refine down (fun h1k hp pa C ua ff hd => ?_) (fun k hk ih h1k hp pa C ua ff hd => ?_)
  · have hl1 := lq_le P (n - 1)
    obtain ⟨C0, C1, C2, C3, C4, C5, C6, C7, C8, C11, C12, C13, C14, C15, C16, C17, C18, C19, C20, C21, C22, C23⟩ := id C
    have hob := C0.ob
    refine x_iload (pc := 21) dX7_isTree_21 rfl ?_
    refine x_iload_n (pc := 23) dX7_isTree_23 rfl ?_
    refine x_icmp_ge (pc := 24) (tgt := 63) dX7_isTree_24 (by decide) (by omega) (by omega) (fun c24 => ?_) (fun c24 => ?_)
    · refine x_iload_n (pc := 63) dX7_isTree_63 rfl ?_
      refine x_if_ne (pc := 64) (tgt := 71) dX7_isTree_64 (by decide) (by omega) (fun c64 => ?_) (fun c64 => ?_)
      · refine x_iconst (pc := 71) dX7_isTree_71 ?_
        refine x_zret (pc := 72) dX7_isTree_72 rfl (by first | exact Or.inr rfl | exact Or.inl rfl) (by first | exact (hno _ pa C ua ff (fun q => by have := q.2.2.2.2; rw [Int.toNat_natCast, Int.toNat_natCast] at this; omega)) | exact (hyes hp pa C ua ff ⟨by omega, by omega, by omega, fun j h1 h2 => (hd j h1 (by omega)).2, by rw [Int.toNat_natCast, Int.toNat_natCast]; omega⟩ (fun j h1 h2 => (hd j h1 h2).1)))
      · refine x_iconst (pc := 67) dX7_isTree_67 ?_
        refine x_goto (pc := 68) (tgt := 72) dX7_isTree_68 (by decide) ?_
        refine x_zret (pc := 72) dX7_isTree_72 rfl (by first | exact Or.inr rfl | exact Or.inl rfl) (by first | exact (hno _ pa C ua ff (fun q => by have := q.2.2.2.2; rw [Int.toNat_natCast, Int.toNat_natCast] at this; omega)) | exact (hyes hp pa C ua ff ⟨by omega, by omega, by omega, fun j h1 h2 => (hd j h1 (by omega)).2, by rw [Int.toNat_natCast, Int.toNat_natCast]; omega⟩ (fun j h1 h2 => (hd j h1 h2).1)))
    · exact absurd c24 (by omega)
  · have hl1 := lq_le P (k - 1)
    obtain ⟨C0, C1, C2, C3, C4, C5, C6, C7, C8, C11, C12, C13, C14, C15, C16, C17, C18, C19, C20, C21, C22, C23⟩ := id C
    have hob := C0.ob
    refine x_iload (pc := 21) dX7_isTree_21 rfl ?_
    refine x_iload_n (pc := 23) dX7_isTree_23 rfl ?_
    refine x_icmp_ge (pc := 24) (tgt := 63) dX7_isTree_24 (by decide) (by omega) (by omega) (fun c24 => ?_) (fun c24 => ?_)
    · exact absurd c24 (by omega)
    · refine x_aload_n (pc := 27) dX7_isTree_27 rfl ?_
      refine x_gf (pc := 28) dX7_isTree_28 fX7_69 (by assumption) (by omega) ?_
      refine x_iload (pc := 31) dX7_isTree_31 rfl ?_
      refine x_iload_n (pc := 33) dX7_isTree_33 rfl ?_
      refine x_bipush (pc := 34) dX7_isTree_34 (by decide) ?_
      refine x_irem (pc := 36) dX7_isTree_36 (by omega) (by omega) ?_
      rw [tm10]
      refine x_is (pc := 37) dX7_isTree_37 (by assumption) (by omega) rfl (by omega) ?_
      have Cb := C.keep (hp' := up hp 413 (ar 0 9 (up pa k ((lq P (k - 1) % 10 : Nat) : Int)))) (up_n _ _ (by omega))
      have ub9 := up_s hp 413 (ar 0 9 (up pa k ((lq P (k - 1) % 10 : Nat) : Int)))
      obtain ⟨C0, C1, C2, C3, C4, C5, C6, C7, C8, C11, C12, C13, C14, C15, C16, C17, C18, C19, C20, C21, C22, C23⟩ := id Cb
      refine x_iload_n (pc := 38) dX7_isTree_38 rfl ?_
      refine x_bipush (pc := 39) dX7_isTree_39 (by decide) ?_
      refine x_idiv (pc := 41) dX7_isTree_41 (by omega) (by omega) ?_
      rw [td10]
      refine x_istore_n (pc := 42) dX7_isTree_42 (by decide) rfl ?_
      show Ex _ _ _ _ _ _ [_, _, _, _, _] _ _ _ _
      refine x_aload_n (pc := 43) dX7_isTree_43 rfl ?_
      refine x_gf (pc := 44) dX7_isTree_44 fX7_69 (by assumption) (by omega) ?_
      refine x_iload (pc := 47) dX7_isTree_47 rfl ?_
      refine x_il (pc := 49) dX7_isTree_49 (by assumption) (by omega) rfl (by omega) ?_
      rw [up_s]
      refine x_iload (pc := 50) dX7_isTree_50 rfl ?_
      refine x_icmp_lt (pc := 52) (tgt := 57) dX7_isTree_52 (by decide) (by omega) (by omega) (fun c52 => ?_) (fun c52 => ?_)
      · refine x_iinc (pc := 57) dX7_isTree_57 rfl (by decide) rfl ?_
        show Ex _ _ _ _ _ _ [_, _, _, _, _] _ _ _ _
        refine x_goto (pc := 60) (tgt := 21) dX7_isTree_60 (by decide) ?_
        rw [show lq P (k - 1) / 10 = lq P (k + 1 - 1) from by rw [Nat.add_sub_cancel]; exact (lq_s h1k).symm]
        exact ih (by omega) _ _ Cb ub9 (ff.up (by omega) (by omega)) (fun j h1 h2 => by
          by_cases e : j = k
          · subst e; exact ⟨up_s _ _ _, by unfold dg; omega⟩
          · rw [up_n _ _ e]; exact hd j h1 (by omega))
      · refine x_iconst (pc := 55) dX7_isTree_55 ?_
        refine x_zret (pc := 56) dX7_isTree_56 rfl (Or.inl rfl) (hno _ _ Cb ub9 (ff.up (by omega) (by omega)) (fun q => by have := q.2.2.2.1 k (by omega) (by rw [Int.toNat_natCast]; omega); rw [Int.toNat_natCast] at this; unfold dg at this; omega))

set_option maxRecDepth 4000 in
theorem m_isTree {G : GL} {d : Nat} {hp : HP} {sz : Nat} {p N : Nat} (C : ModA hp p N) (hz : 615 ≤ sz) {pa : Nat → Int} (ua : hp 413 = ar 0 9 pa) {x : Int} (hx : -2147483648 ≤ x ∧ x < 2147483648) {y : Int} (hy : -2147483648 ≤ y ∧ y < 2147483648) : Ct G (d + 1) 0 0 mX7_isTree [vr 92, vi x, vi y] hp sz (Vs (fun v h => ∃ r : Bool, v = vi (bz r) ∧ (r = true ↔ isTr x y) ∧ ModA h p N ∧ Fr hp h 413 413 ∧ ∃ pa1, h 413 = ar 0 9 pa1 ∧ (r = true → ∀ j, 1 ≤ j → j < x.toNat → pa1 j = (dg y.toNat j : Int))) sz) := by
  show Ex _ _ _ _ _ _ [vr 92, vi x, vi y, vu, vu] _ _ _ _
  obtain ⟨C0, C1, C2, C3, C4, C5, C6, C7, C8, C11, C12, C13, C14, C15, C16, C17, C18, C19, C20, C21, C22, C23⟩ := id C
  have hob := C0.ob
  refine x_iload_n (pc := 0) dX7_isTree_0 rfl ?_
  refine x_iconst (pc := 1) dX7_isTree_1 ?_
  refine x_bipush (pc := 2) dX7_isTree_2 (by decide) ?_
  refine x_t3 (pc := 4) dX7_isTree_4 wX7_in sX7_in kX7_96 (by decide) rfl (Nat.le_of_ble_eq_true rfl) (m_in hx (by omega) (by omega)) ?_
  refine x_if_eq (pc := 7) (tgt := 14) dX7_isTree_7 (by decide) (bz_rg _) (fun c7 => ?_) (fun c7 => ?_)
  · have d1 := bz_e c7
    refine x_iconst (pc := 14) dX7_isTree_14 ?_
    refine x_zret (pc := 15) dX7_isTree_15 rfl (Or.inl rfl) ⟨_, rfl, rfl, false, rfl, ⟨fun q => absurd q (by decide), fun q => by have q1 := q.1; have q2 := q.2.1; have q3 := q.2.2.1; omega⟩, C, Fr.rf, pa, ua, fun q => absurd q (by decide)⟩
  · have d1 := bz_n c7
    refine x_iload_n (pc := 10) dX7_isTree_10 rfl ?_
    refine x_if_ge (pc := 11) (tgt := 16) dX7_isTree_11 (by decide) (by omega) (fun c11 => ?_) (fun c11 => ?_)
    · obtain ⟨n, rfl⟩ : ∃ l : Nat, x = (l : Int) := ⟨x.toNat, by omega⟩
      obtain ⟨P, rfl⟩ : ∃ l : Nat, y = (l : Int) := ⟨y.toNat, by omega⟩
      refine x_iload_n (pc := 16) dX7_isTree_16 rfl ?_
      refine x_istore_n (pc := 17) dX7_isTree_17 (by decide) rfl ?_
      show Ex _ _ _ _ _ _ [_, _, _, _, _] _ _ _ _
      refine x_iconst (pc := 18) dX7_isTree_18 ?_
      refine x_istore (pc := 19) dX7_isTree_19 (by decide) rfl ?_
      show Ex _ _ _ _ _ _ [_, _, _, _, _] _ _ _ _
      exact k_isTree (d := d) (hp0 := hp) hz (by omega) (by omega) (fun h pa1 g0 g1 g2 g3 g4 => ⟨_, rfl, rfl, true, rfl, ⟨fun _ => g3, fun _ => rfl⟩, g0, g2, pa1, g1, fun _ j h1 h2 => g4 j h1 (by rw [Int.toNat_natCast] at h2; exact h2)⟩) (fun h pa1 g0 g1 g2 g3 => ⟨_, rfl, rfl, false, rfl, ⟨fun q => absurd q (by decide), fun q => absurd q g3⟩, g0, g2, pa1, g1, fun q => absurd q (by decide)⟩) 1 (by omega) (Nat.le_refl _) _ pa C ua Fr.rf (fun j h1 h2 => by omega)
    · refine x_iconst (pc := 14) dX7_isTree_14 ?_
      refine x_zret (pc := 15) dX7_isTree_15 rfl (Or.inl rfl) ⟨_, rfl, rfl, false, rfl, ⟨fun q => absurd q (by decide), fun q => by have q1 := q.1; have q2 := q.2.1; have q3 := q.2.2.1; omega⟩, C, Fr.rf, pa, ua, fun q => absurd q (by decide)⟩

theorem k_formc1 {G : GL} {d : Nat} {hp : HP} {sz p N : Nat} (C : ClsA hp p N) (hz : 92 ≤ sz) (hN : 1 ≤ N ∧ N ≤ 8) {S T : Nat → Nat → Int} {W : Nat → Nat} (Ls : LysA hp S T W) {l q : Nat} (hl : l < 8) (hq8 : q < 8) {Q : Option AV → HP → Nat → Prop} (hq : Ex G (d + 2) 0 0 mX6_form 75 [vr 0, vi l, vi q, vr (3 + 3 * l), vr (3 + 3 * q), vi (sm N (fun k => S l k * S q k)), vi (N : Nat)] [] hp sz Q) : ∀ k, k ≤ N → Ex G (d + 2) 0 0 mX6_form 45 [vr 0, vi l, vi q, vr (3 + 3 * l), vr (3 + 3 * q), vi (sm k (fun k => S l k * S q k)), vi k] [] hp sz Q := by
  obtain ⟨C0, C1, C2, C3, C4, C5, C6, C7, C8, C9, g, gA, gB⟩ := id C
  have hob := C0.ob
  obtain ⟨LA, hwl⟩ := Ls l hl
  obtain ⟨LB, hwq⟩ := Ls q hq8
  obtain ⟨P1, P2, P3, P4, P5⟩ := id LA
  obtain ⟨R1, R2, R3, R4, R5⟩ := id LB
  rw [show 2 + 3 * l + 1 = 3 + 3 * l by omega] at P1 P4
  rw [show 2 + 3 * q + 1 = 3 + 3 * q by omega] at R1 R4
  have hoA := P1.ob
  refine down ?_ (fun k hk ih => ?_)
  · refine x_iload (pc := 45) dX6_form_45 rfl ?_
    refine x_aload_n (pc := 47) dX6_form_47 rfl ?_
    refine x_gf (pc := 48) dX6_form_48 fX6_26 (by assumption) (by omega) ?_
    refine x_icmp_ge (pc := 51) (tgt := 75) dX6_form_51 (by decide) (by omega) (by omega) (fun c51 => ?_) (fun c51 => ?_)
    · exact hq
    · exact absurd c51 (by omega)
  · refine x_iload (pc := 45) dX6_form_45 rfl ?_
    refine x_aload_n (pc := 47) dX6_form_47 rfl ?_
    refine x_gf (pc := 48) dX6_form_48 fX6_26 (by assumption) (by omega) ?_
    refine x_icmp_ge (pc := 51) (tgt := 75) dX6_form_51 (by decide) (by omega) (by omega) (fun c51 => ?_) (fun c51 => ?_)
    · exact absurd c51 (by omega)
    · refine x_iload (pc := 54) dX6_form_54 rfl ?_
      refine x_aload_n (pc := 56) dX6_form_56 rfl ?_
      refine x_iload (pc := 57) dX6_form_57 rfl ?_
      refine x_il (pc := 59) dX6_form_59 (by assumption) (by omega) rfl (by omega) ?_
      refine x_aload (pc := 60) dX6_form_60 rfl ?_
      refine x_iload (pc := 62) dX6_form_62 rfl ?_
      refine x_il (pc := 64) dX6_form_64 (by assumption) (by omega) rfl (by omega) ?_
      refine x_imul (pc := 65) dX6_form_65 ?_
      refine x_iadd (pc := 66) dX6_form_66 ?_
      refine x_istore (pc := 67) dX6_form_67 (by decide) rfl ?_
      show Ex _ _ _ _ _ _ [_, _, _, _, _, _, _] _ _ _ _
      refine x_iinc (pc := 69) dX6_form_69 rfl (by decide) rfl ?_
      show Ex _ _ _ _ _ _ [_, _, _, _, _, _, _] _ _ _ _
      refine x_goto (pc := 72) (tgt := 45) dX6_form_72 (by decide) ?_
      exact ih

theorem k_formc2 {G : GL} {d : Nat} {hp : HP} {sz p N : Nat} (C : ClsA hp p N) (hz : 92 ≤ sz) (hN : 1 ≤ N ∧ N ≤ 8) {S T : Nat → Nat → Int} {W : Nat → Nat} (Ls : LysA hp S T W) {l q : Nat} (hl : l < 8) (hq8 : q < 8) {Q : Option AV → HP → Nat → Prop} {z : Int} (hq : Q (some (vi (z - sm (N - 1) (fun k => S l (if (W l).testBit k then k + 1 else k) * S q (if (W l).testBit k then k else k + 1))))) hp sz) : ∀ k, k ≤ N - 1 → Ex G (d + 2) 0 0 mX6_form 78 [vr 0, vi l, vi q, vr (3 + 3 * l), vr (3 + 3 * q), vi (z - sm k (fun k => S l (if (W l).testBit k then k + 1 else k) * S q (if (W l).testBit k then k else k + 1))), vi k] [] hp sz Q := by
  obtain ⟨C0, C1, C2, C3, C4, C5, C6, C7, C8, C9, g, gA, gB⟩ := id C
  have hob := C0.ob
  obtain ⟨LA, hwl⟩ := Ls l hl
  obtain ⟨LB, hwq⟩ := Ls q hq8
  obtain ⟨P1, P2, P3, P4, P5⟩ := id LA
  obtain ⟨R1, R2, R3, R4, R5⟩ := id LB
  rw [show 2 + 3 * l + 1 = 3 + 3 * l by omega] at P1 P4
  rw [show 2 + 3 * q + 1 = 3 + 3 * q by omega] at R1 R4
  have hoA := P1.ob
  refine down ?_ (fun k hk ih => ?_)
  · refine x_iload (pc := 78) dX6_form_78 rfl ?_
    refine x_aload_n (pc := 80) dX6_form_80 rfl ?_
    refine x_gf (pc := 81) dX6_form_81 fX6_26 (by assumption) (by omega) ?_
    refine x_iconst (pc := 84) dX6_form_84 ?_
    refine x_isub (pc := 85) dX6_form_85 ?_
    refine x_icmp_ge (pc := 86) (tgt := 128) dX6_form_86 (by decide) (by omega) (by omega) (fun c86 => ?_) (fun c86 => ?_)
    · refine x_iload (pc := 128) dX6_form_128 rfl ?_
      refine x_iret (pc := 130) dX6_form_130 rfl hq
    · exact absurd c86 (by omega)
  · refine x_iload (pc := 78) dX6_form_78 rfl ?_
    refine x_aload_n (pc := 80) dX6_form_80 rfl ?_
    refine x_gf (pc := 81) dX6_form_81 fX6_26 (by assumption) (by omega) ?_
    refine x_iconst (pc := 84) dX6_form_84 ?_
    refine x_isub (pc := 85) dX6_form_85 ?_
    refine x_icmp_ge (pc := 86) (tgt := 128) dX6_form_86 (by decide) (by omega) (by omega) (fun c86 => ?_) (fun c86 => ?_)
    · exact absurd c86 (by omega)
    · refine x_iload (pc := 89) dX6_form_89 rfl ?_
      refine x_aload_n (pc := 91) dX6_form_91 rfl ?_
      refine x_aload_n (pc := 92) dX6_form_92 rfl ?_
      refine x_gf (pc := 93) dX6_form_93 fX6_31 (by assumption) (by omega) ?_
      refine x_iload_n (pc := 96) dX6_form_96 rfl ?_
      refine x_al (pc := 97) dX6_form_97 (by assumption) (by omega) rfl (by omega) (gB l hl) ?_
      refine x_iload (pc := 98) dX6_form_98 rfl ?_
      refine x_w1 (pc := 100) dX6_form_100 wX0_source iX0_source kX6_194 (by decide) rfl (Nat.le_of_ble_eq_true rfl) hoA (by omega) (t_source LA (by omega) (k := k) (by omega) hwl) ?_
      refine x_il (pc := 103) dX6_form_103 (by assumption) (by omega) rfl (by split <;> omega) ?_
      refine x_aload (pc := 104) dX6_form_104 rfl ?_
      refine x_aload_n (pc := 106) dX6_form_106 rfl ?_
      refine x_gf (pc := 107) dX6_form_107 fX6_31 (by assumption) (by omega) ?_
      refine x_iload_n (pc := 110) dX6_form_110 rfl ?_
      refine x_al (pc := 111) dX6_form_111 (by assumption) (by omega) rfl (by omega) (gB l hl) ?_
      refine x_iload (pc := 112) dX6_form_112 rfl ?_
      refine x_w1 (pc := 114) dX6_form_114 wX0_target iX0_target kX6_154 (by decide) rfl (Nat.le_of_ble_eq_true rfl) hoA (by omega) (t_target LA (by omega) (k := k) (by omega) hwl) ?_
      refine x_il (pc := 117) dX6_form_117 (by assumption) (by omega) rfl (by split <;> omega) ?_
      refine x_imul (pc := 118) dX6_form_118 ?_
      refine x_isub (pc := 119) dX6_form_119 ?_
      refine x_istore (pc := 120) dX6_form_120 (by decide) rfl ?_
      show Ex _ _ _ _ _ _ [_, _, _, _, _, _, _] _ _ _ _
      refine x_iinc (pc := 122) dX6_form_122 rfl (by decide) rfl ?_
      show Ex _ _ _ _ _ _ [_, _, _, _, _, _, _] _ _ _ _
      refine x_goto (pc := 125) (tgt := 78) dX6_form_125 (by decide) ?_
      have e9 : z - sm k (fun k => S l (if (W l).testBit k then k + 1 else k) * S q (if (W l).testBit k then k else k + 1)) - S l (if (W l).testBit k then k + 1 else k) * S q (if (W l).testBit k then k else k + 1) = z - sm (k + 1) (fun k => S l (if (W l).testBit k then k + 1 else k) * S q (if (W l).testBit k then k else k + 1)) := by rw [sm_s]; omega
      rw [e9]
      exact ih

set_option maxRecDepth 4000 in
theorem t_form6 {G : GL} {d : Nat} {hp : HP} {sz p N : Nat} (C : ClsA hp p N) (hz : 92 ≤ sz) (hN : 1 ≤ N ∧ N ≤ 8) {S T : Nat → Nat → Int} {W : Nat → Nat} (Ls : LysA hp S T W) {x : Int} (hx : -2147483648 ≤ x ∧ x < 2147483648) {y : Int} (hy : -2147483648 ≤ y ∧ y < 2147483648) : Ct G (d + 2) 0 0 mX6_form [vr 0, vi x, vi y] hp sz (Rd (some (vi (if 0 ≤ x ∧ x < 8 ∧ 0 ≤ y ∧ y < 8 then (sm N (fun k => S x.toNat k * S y.toNat k) - sm (N - 1) (fun k => S x.toNat (if (W x.toNat).testBit k then k + 1 else k) * S y.toNat (if (W x.toNat).testBit k then k else k + 1))) else 0))) hp sz) := by
  show Ex _ _ _ _ _ _ [vr 0, vi x, vi y, vu, vu, vu, vu] _ _ _ _
  obtain ⟨C0, C1, C2, C3, C4, C5, C6, C7, C8, C9, g, gA, gB⟩ := id C
  have hob := C0.ob
  refine x_aload_n (pc := 0) dX6_form_0 rfl ?_
  refine x_iload_n (pc := 1) dX6_form_1 rfl ?_
  refine x_w1 (pc := 2) dX6_form_2 wX6_isLaying iX6_isLaying kX6_82 (by decide) rfl (Nat.le_of_ble_eq_true rfl) (by assumption) (by omega) (t_isLaying C hz hN hx) ?_
  refine x_if_eq (pc := 5) (tgt := 16) dX6_form_5 (by decide) (bz_rg _) (fun c5 => ?_) (fun c5 => ?_)
  · have d1 := bz_e c5
    refine x_iconst (pc := 16) dX6_form_16 ?_
    refine x_iret (pc := 17) dX6_form_17 rfl ⟨by rw [if_neg (by omega)], rfl, rfl⟩
  · have d1 := bz_n c5
    refine x_aload_n (pc := 8) dX6_form_8 rfl ?_
    refine x_iload_n (pc := 9) dX6_form_9 rfl ?_
    refine x_w1 (pc := 10) dX6_form_10 wX6_isLaying iX6_isLaying kX6_82 (by decide) rfl (Nat.le_of_ble_eq_true rfl) (by assumption) (by omega) (t_isLaying C hz hN hy) ?_
    refine x_if_ne (pc := 13) (tgt := 18) dX6_form_13 (by decide) (bz_rg _) (fun c13 => ?_) (fun c13 => ?_)
    · have d2 := bz_n c13
      obtain ⟨l, rfl⟩ : ∃ l : Nat, x = (l : Int) := ⟨x.toNat, by omega⟩
      obtain ⟨q, rfl⟩ : ∃ q : Nat, y = (q : Int) := ⟨y.toNat, by omega⟩
      simp only [Int.toNat_natCast]
      obtain ⟨LA, hwl⟩ := Ls l (by omega)
      obtain ⟨LB, hwq⟩ := Ls q (by omega)
      obtain ⟨P1, P2, P3, P4, P5⟩ := id LA
      obtain ⟨R1, R2, R3, R4, R5⟩ := id LB
      rw [show 2 + 3 * l + 1 = 3 + 3 * l by omega] at P1 P4
      rw [show 2 + 3 * q + 1 = 3 + 3 * q by omega] at R1 R4
      refine x_aload_n (pc := 18) dX6_form_18 rfl ?_
      refine x_gf (pc := 19) dX6_form_19 fX6_31 (by assumption) (by omega) ?_
      refine x_iload_n (pc := 22) dX6_form_22 rfl ?_
      refine x_al (pc := 23) dX6_form_23 (by assumption) (by omega) rfl (by omega) (gB l (by omega)) ?_
      refine x_gn (pc := 24) dX6_form_24 fX6_95 (by assumption) (by omega) ?_
      refine x_astore_n (pc := 27) dX6_form_27 (by decide) rfl ?_
      show Ex _ _ _ _ _ _ [_, _, _, _, _, _, _] _ _ _ _
      refine x_aload_n (pc := 28) dX6_form_28 rfl ?_
      refine x_gf (pc := 29) dX6_form_29 fX6_31 (by assumption) (by omega) ?_
      refine x_iload_n (pc := 32) dX6_form_32 rfl ?_
      refine x_al (pc := 33) dX6_form_33 (by assumption) (by omega) rfl (by omega) (gB q (by omega)) ?_
      refine x_gn (pc := 34) dX6_form_34 fX6_95 (by assumption) (by omega) ?_
      refine x_astore (pc := 37) dX6_form_37 (by decide) rfl ?_
      show Ex _ _ _ _ _ _ [_, _, _, _, _, _, _] _ _ _ _
      refine x_iconst (pc := 39) dX6_form_39 ?_
      refine x_istore (pc := 40) dX6_form_40 (by decide) rfl ?_
      show Ex _ _ _ _ _ _ [_, _, _, _, _, _, _] _ _ _ _
      refine x_iconst (pc := 42) dX6_form_42 ?_
      refine x_istore (pc := 43) dX6_form_43 (by decide) rfl ?_
      show Ex _ _ _ _ _ _ [_, _, _, _, _, _, _] _ _ _ _
      have key := k_formc1 (G := G) (d := d) (Q := Rd (some (vi (if 0 ≤ (l : Int) ∧ (l : Int) < 8 ∧ 0 ≤ (q : Int) ∧ (q : Int) < 8 then (sm N (fun k => S l k * S q k) - sm (N - 1) (fun k => S l (if (W l).testBit k then k + 1 else k) * S q (if (W l).testBit k then k else k + 1))) else 0))) hp sz) C hz hN Ls (show l < 8 by omega) (show q < 8 by omega) ?_ 0 (by omega)
      · exact key
      · refine x_iconst (pc := 75) dX6_form_75 ?_
        refine x_istore (pc := 76) dX6_form_76 (by decide) rfl ?_
        show Ex _ _ _ _ _ _ [_, _, _, _, _, _, _] _ _ _ _
        have h9 := k_formc2 (G := G) (d := d) (z := sm N (fun k => S l k * S q k)) (Q := Rd (some (vi (if 0 ≤ (l : Int) ∧ (l : Int) < 8 ∧ 0 ≤ (q : Int) ∧ (q : Int) < 8 then (sm N (fun k => S l k * S q k) - sm (N - 1) (fun k => S l (if (W l).testBit k then k + 1 else k) * S q (if (W l).testBit k then k else k + 1))) else 0))) hp sz) C hz hN Ls (show l < 8 by omega) (show q < 8 by omega) ⟨by rw [if_pos (by omega)], rfl, rfl⟩ 0 (by omega)
        rw [sm_0, Int.sub_zero] at h9
        exact h9
    · have d2 := bz_e c13
      refine x_iconst (pc := 16) dX6_form_16 ?_
      refine x_iret (pc := 17) dX6_form_17 rfl ⟨by rw [if_neg (by omega)], rfl, rfl⟩

theorem rA_rg {N R : Nat} {st en : Nat → Nat} (hN : N ≤ 8) {μ : Nat → Nat → Nat} : ∀ i, i < (rA μ N N).length → ((rA μ N N).getD i (0, 0)).1 ≤ ((rA μ N N).getD i (0, 0)).2 ∧ ((rA μ N N).getD i (0, 0)).2 < 8 := by
  have hB : ∀ a j, j ≤ N - a → ∀ x ∈ rB μ N a j, x.1 ≤ x.2 ∧ x.2 < 8 := by
    intro a j
    induction j with
    | zero => intro _ x hx; exact absurd hx (by simp [rB])
    | succ j ih =>
      intro hj x hx
      rcases List.mem_append.mp hx with h | h
      · have := List.eq_of_mem_replicate h
        subst this
        dsimp only
        omega
      · exact ih (by omega) x h
  have hA : ∀ j, j ≤ N → ∀ x ∈ rA μ N j, x.1 ≤ x.2 ∧ x.2 < 8 := by
    intro j
    induction j with
    | zero => intro _ x hx; exact absurd hx (by simp [rA])
    | succ j ih =>
      intro hj x hx
      rcases List.mem_append.mp hx with h | h
      · exact hB _ _ (by omega) x h
      · exact ih (by omega) x h
  intro i hi
  rw [List.getD_eq_getElem?_getD, List.getElem?_eq_getElem hi]
  exact hA N (Nat.le_refl _) _ (List.getElem_mem hi)

set_option maxRecDepth 4000 in
theorem t_maps6 {K : Type} [Lean.Grind.CommRing K] {f : Int → K} {G : GL} {d : Nat} {hp : HP} {sz p N : Nat} (hf : Iot p f) (C : ClsA hp p N) (hz : 92 ≤ sz) (hN : 1 ≤ N ∧ N ≤ 8) (hP : isP p) {S T : Nat → Nat → Int} {W : Nat → Nat} (Ls : LysA hp S T W) (hS : inS S) (hT : ∀ l, l < 8 → inL (T l) p) {Rb : Nat → Nat} {st en : Nat → Nat → Nat} {xb : Nat → Nat → Nat → Nat → K} (hBs : ∀ l, l < 8 → Bar N 4 (szc S l) (Lw (W l)) (TK f (T l) (Lw (W l)) (szc S l) 0) (Rb l) (st l) (en l) (xb l)) (Pz : PZ hp p N) (sp1 : ∃ u v c, SpA hp 76 u v c) (sp2 : ∃ u v c, SpA hp 79 u v c) {x : Int} (hx : -2147483648 ≤ x ∧ x < 2147483648) {y : Int} (hy : -2147483648 ≤ y ∧ y < 2147483648) : Ct G (d + 6) 0 0 mX6_maps [vr 0, vi x, vi y] hp sz (Vs (fun v h => v = vi (if 0 ≤ x ∧ x < 8 ∧ 0 ≤ y ∧ y < 8 ∧ W x.toNat = W y.toNat then (hmn (Lw (W x.toNat)) (Rb x.toNat) (Rb y.toNat) (st x.toNat) (en x.toNat) (st y.toNat) (en y.toNat) : Nat) else -1) ∧ Fr hp h 36 81 ∧ PZ h p N ∧ (∃ u v c, SpA h 76 u v c) ∧ (∃ u v c, SpA h 79 u v c)) sz) := by
  show Ex _ _ _ _ _ _ [vr 0, vi x, vi y] _ _ _ _
  obtain ⟨C0, C1, C2, C3, C4, C5, C6, C7, C8, C9, g, gA, gB⟩ := id C
  have hob := C0.ob
  obtain ⟨Kc, PX, h0⟩ := Pz
  obtain ⟨u1, v1, c1, S1⟩ := sp1
  obtain ⟨u2, v2, c2, S2⟩ := sp2
  refine x_aload_n (pc := 0) dX6_maps_0 rfl ?_
  refine x_iload_n (pc := 1) dX6_maps_1 rfl ?_
  refine x_iload_n (pc := 2) dX6_maps_2 rfl ?_
  refine x_w2 (pc := 3) dX6_maps_3 wX6_haveSameWays iX6_haveSameWays kX6_127 (by decide) rfl (Nat.le_of_ble_eq_true rfl) (by assumption) (by omega) (t_haveSame C hz hN Ls hx hy) ?_
  refine x_if_ne (pc := 6) (tgt := 11) dX6_maps_6 (by decide) (bz_rg _) (fun c6 => ?_) (fun c6 => ?_)
  · have d1 := bz_n c6
    obtain ⟨q, rfl⟩ : ∃ l : Nat, x = (l : Int) := ⟨x.toNat, by omega⟩
    obtain ⟨r, rfl⟩ : ∃ l : Nat, y = (l : Int) := ⟨y.toNat, by omega⟩
    simp only [Int.toNat_natCast] at d1 ⊢
    have hq8 : q < 8 := by omega
    have hr8 : r < 8 := by omega
    have bq := (hBs q hq8).1
    have br := (hBs r hr8).1
    have lq : (rA (mul (Rb q) (st q) (en q)) N N).length ≤ 32 := by rw [len_bars bq]; exact (hBs q hq8).le32 (hf.inv hP) (hf.ne hP.le.1) hN.2 (szc_4 hS hq8)
    have lr : (rA (mul (Rb r) (st r) (en r)) N N).length ≤ 32 := by rw [len_bars br]; exact (hBs r hr8).le32 (hf.inv hP) (hf.ne hP.le.1) hN.2 (szc_4 hS hr8)
    refine x_aload_n (pc := 11) dX6_maps_11 rfl ?_
    refine x_gf (pc := 12) dX6_maps_12 fX6_54 (by assumption) (by omega) ?_
    refine x_aload_n (pc := 15) dX6_maps_15 rfl ?_
    refine x_gf (pc := 16) dX6_maps_16 fX6_31 (by assumption) (by omega) ?_
    refine x_iload_n (pc := 19) dX6_maps_19 rfl ?_
    refine x_al (pc := 20) dX6_maps_20 (by assumption) (by omega) rfl (by omega) (gB q hq8) ?_
    refine x_aload_n (pc := 21) dX6_maps_21 rfl ?_
    refine x_gf (pc := 22) dX6_maps_22 fX6_61 (by assumption) (by omega) ?_
    refine x_p2 (pc := 25) dX6_maps_25 wX2_part iX2_part kX6_183 (by decide) rfl (Nat.le_of_ble_eq_true rfl) PX.ob (by omega) (t_part (d := d) hf hz hP (a := 2 + 3 * q) (by omega) (Ls q hq8).2 (szc_8 hS hq8) (hT q hq8) (hBs q hq8) hN (bs := 76) (by omega) (Ls q hq8).1 PX h0 S1 lq) (fun h25 e25 => ?_)
    obtain ⟨f25, ⟨K1, PX1, h01⟩, u3, v3, S3, lk3⟩ := e25
    have C1' := C.keep (f25 0 (by omega)) (f25 1 (by omega))
    have Ls1 := Ls.kp (fun x h1 h2 => f25 x (by omega))
    have S2' := S2.keep (hp' := h25) (fun x h1 h2 => f25 x (by omega))
    obtain ⟨C0, C1, C2, C3, C4, C5, C6, C7, C8, C9, g, gA, gB⟩ := id C1'
    refine x_aload_n (pc := 28) dX6_maps_28 rfl ?_
    refine x_gf (pc := 29) dX6_maps_29 fX6_54 (by assumption) (by omega) ?_
    refine x_aload_n (pc := 32) dX6_maps_32 rfl ?_
    refine x_gf (pc := 33) dX6_maps_33 fX6_31 (by assumption) (by omega) ?_
    refine x_iload_n (pc := 36) dX6_maps_36 rfl ?_
    refine x_al (pc := 37) dX6_maps_37 (by assumption) (by omega) rfl (by omega) (gB r hr8) ?_
    refine x_aload_n (pc := 38) dX6_maps_38 rfl ?_
    refine x_gf (pc := 39) dX6_maps_39 fX6_65 (by assumption) (by omega) ?_
    refine x_p2 (pc := 42) dX6_maps_42 wX2_part iX2_part kX6_183 (by decide) rfl (Nat.le_of_ble_eq_true rfl) PX1.ob (by omega) (t_part (d := d) hf hz hP (a := 2 + 3 * r) (by omega) (Ls1 r hr8).2 (szc_8 hS hr8) (hT r hr8) (hBs r hr8) hN (bs := 79) (by omega) (Ls1 r hr8).1 PX1 h01 S2' lr) (fun h42 e42 => ?_)
    obtain ⟨f42, pz2, u4, v4, S4, lk4⟩ := e42
    have Ca := C1'.keep (f42 0 (by omega)) (f42 1 (by omega))
    have Lsa := Ls1.kp (fun x h1 h2 => f42 x (by omega))
    have S3' := S3.keep (hp' := h42) (fun x h1 h2 => f42 x (by omega))
    have FFF : Fr hp h42 36 81 := fun x hx => (f42 x (by omega)).trans (f25 x (by omega))
    obtain ⟨C0, C1, C2, C3, C4, C5, C6, C7, C8, C9, g, gA, gB⟩ := id Ca
    have hobA := C0.ob
    refine x_aload_n (pc := 45) dX6_maps_45 rfl ?_
    refine x_aload_n (pc := 46) dX6_maps_46 rfl ?_
    refine x_gf (pc := 47) dX6_maps_47 fX6_31 (by assumption) (by omega) ?_
    refine x_iload_n (pc := 50) dX6_maps_50 rfl ?_
    refine x_al (pc := 51) dX6_maps_51 (by assumption) (by omega) rfl (by omega) (gB q hq8) ?_
    refine x_w1 (pc := 52) dX6_maps_52 wX6_mapsOfSpans iX6_mapsOfSpans kX6_187 (by decide) rfl (Nat.le_of_ble_eq_true rfl) hobA (by omega) (t_mos (d := d + 3) Ca hz hN S3' S4 lk3 lk4 (rA_rg (R := Rb q) (st := st q) (en := en q) hN.2) (rA_rg (R := Rb r) (st := st r) (en := en r) hN.2) lq lr (Lsa q hq8).1 (by omega) (Lsa q hq8).2) ?_
    rw [hmn_ls bq br]
    refine x_iret (pc := 55) dX6_maps_55 rfl ⟨_, rfl, rfl, by rw [if_pos d1], FFF, pz2, ⟨_, _, _, S3'⟩, ⟨_, _, _, S4⟩⟩
  · have d1 := bz_e c6
    refine x_iconst (pc := 9) dX6_maps_9 ?_
    refine x_iret (pc := 10) dX6_maps_10 rfl ⟨_, rfl, rfl, by rw [if_neg d1], Fr.rf, ⟨Kc, PX, h0⟩, ⟨u1, v1, c1, S1⟩, ⟨u2, v2, c2, S2⟩⟩

set_option maxRecDepth 4000 in
theorem t_bends6 {K : Type} [Lean.Grind.CommRing K] {f : Int → K} {G : GL} {d : Nat} {hp : HP} {sz p N : Nat} (hf : Iot p f) (C : ClsA hp p N) (hz : 92 ≤ sz) (hN : 1 ≤ N ∧ N ≤ 8) (hP : isP p) {S T : Nat → Nat → Int} {W : Nat → Nat} (Ls : LysA hp S T W) (hS : inS S) (hT : ∀ l, l < 8 → inL (T l) p) {Rb : Nat → Nat} {st en : Nat → Nat → Nat} {xb : Nat → Nat → Nat → Nat → K} (hBs : ∀ l, l < 8 → Bar N 4 (szc S l) (Lw (W l)) (TK f (T l) (Lw (W l)) (szc S l) 0) (Rb l) (st l) (en l) (xb l)) (Pz : PZ hp p N) (sp1 : ∃ u v c, SpA hp 76 u v c) (sp2 : ∃ u v c, SpA hp 79 u v c) {x : Int} (hx : -2147483648 ≤ x ∧ x < 2147483648) {y : Int} (hy : -2147483648 ≤ y ∧ y < 2147483648) : Ct G (d + 6) 0 0 mX6_bends [vr 0, vi x, vi y] hp sz (Vs (fun v h => v = vi (if 0 ≤ x ∧ x < 8 ∧ 0 ≤ y ∧ y < 8 ∧ W x.toNat = W y.toNat then ((hmn (Lw (W x.toNat)) (Rb x.toNat) (Rb y.toNat) (st x.toNat) (en x.toNat) (st y.toNat) (en y.toNat) : Nat) : Int) - (sm N (fun k => S x.toNat k * S y.toNat k) - sm (N - 1) (fun k => S x.toNat (if (W x.toNat).testBit k then k + 1 else k) * S y.toNat (if (W x.toNat).testBit k then k else k + 1))) else -1) ∧ Fr hp h 36 81 ∧ PZ h p N ∧ (∃ u v c, SpA h 76 u v c) ∧ (∃ u v c, SpA h 79 u v c)) sz) := by
  show Ex _ _ _ _ _ _ [vr 0, vi x, vi y] _ _ _ _
  obtain ⟨C0, C1, C2, C3, C4, C5, C6, C7, C8, C9, g, gA, gB⟩ := id C
  have hob := C0.ob
  obtain ⟨Kc, PX, h0⟩ := Pz
  obtain ⟨u1, v1, c1, S1⟩ := sp1
  obtain ⟨u2, v2, c2, S2⟩ := sp2
  refine x_aload_n (pc := 0) dX6_bends_0 rfl ?_
  refine x_iload_n (pc := 1) dX6_bends_1 rfl ?_
  refine x_iload_n (pc := 2) dX6_bends_2 rfl ?_
  refine x_w2 (pc := 3) dX6_bends_3 wX6_haveSameWays iX6_haveSameWays kX6_127 (by decide) rfl (Nat.le_of_ble_eq_true rfl) (by assumption) (by omega) (t_haveSame C hz hN Ls hx hy) ?_
  refine x_if_ne (pc := 6) (tgt := 11) dX6_bends_6 (by decide) (bz_rg _) (fun c6 => ?_) (fun c6 => ?_)
  · have d1 := bz_n c6
    obtain ⟨q, rfl⟩ : ∃ l : Nat, x = (l : Int) := ⟨x.toNat, by omega⟩
    obtain ⟨r, rfl⟩ : ∃ l : Nat, y = (l : Int) := ⟨y.toNat, by omega⟩
    simp only [Int.toNat_natCast] at d1 ⊢
    have hq8 : q < 8 := by omega
    have hr8 : r < 8 := by omega
    have bq := (hBs q hq8).1
    have br := (hBs r hr8).1
    have lq : (rA (mul (Rb q) (st q) (en q)) N N).length ≤ 32 := by rw [len_bars bq]; exact (hBs q hq8).le32 (hf.inv hP) (hf.ne hP.le.1) hN.2 (szc_4 hS hq8)
    have lr : (rA (mul (Rb r) (st r) (en r)) N N).length ≤ 32 := by rw [len_bars br]; exact (hBs r hr8).le32 (hf.inv hP) (hf.ne hP.le.1) hN.2 (szc_4 hS hr8)
    refine x_aload_n (pc := 11) dX6_bends_11 rfl ?_
    refine x_gf (pc := 12) dX6_bends_12 fX6_54 (by assumption) (by omega) ?_
    refine x_aload_n (pc := 15) dX6_bends_15 rfl ?_
    refine x_gf (pc := 16) dX6_bends_16 fX6_31 (by assumption) (by omega) ?_
    refine x_iload_n (pc := 19) dX6_bends_19 rfl ?_
    refine x_al (pc := 20) dX6_bends_20 (by assumption) (by omega) rfl (by omega) (gB q hq8) ?_
    refine x_aload_n (pc := 21) dX6_bends_21 rfl ?_
    refine x_gf (pc := 22) dX6_bends_22 fX6_61 (by assumption) (by omega) ?_
    refine x_p2 (pc := 25) dX6_bends_25 wX2_part iX2_part kX6_183 (by decide) rfl (Nat.le_of_ble_eq_true rfl) PX.ob (by omega) (t_part (d := d) hf hz hP (a := 2 + 3 * q) (by omega) (Ls q hq8).2 (szc_8 hS hq8) (hT q hq8) (hBs q hq8) hN (bs := 76) (by omega) (Ls q hq8).1 PX h0 S1 lq) (fun h25 e25 => ?_)
    obtain ⟨f25, ⟨K1, PX1, h01⟩, u3, v3, S3, lk3⟩ := e25
    have C1' := C.keep (f25 0 (by omega)) (f25 1 (by omega))
    have Ls1 := Ls.kp (fun x h1 h2 => f25 x (by omega))
    have S2' := S2.keep (hp' := h25) (fun x h1 h2 => f25 x (by omega))
    obtain ⟨C0, C1, C2, C3, C4, C5, C6, C7, C8, C9, g, gA, gB⟩ := id C1'
    refine x_aload_n (pc := 28) dX6_bends_28 rfl ?_
    refine x_gf (pc := 29) dX6_bends_29 fX6_54 (by assumption) (by omega) ?_
    refine x_aload_n (pc := 32) dX6_bends_32 rfl ?_
    refine x_gf (pc := 33) dX6_bends_33 fX6_31 (by assumption) (by omega) ?_
    refine x_iload_n (pc := 36) dX6_bends_36 rfl ?_
    refine x_al (pc := 37) dX6_bends_37 (by assumption) (by omega) rfl (by omega) (gB r hr8) ?_
    refine x_aload_n (pc := 38) dX6_bends_38 rfl ?_
    refine x_gf (pc := 39) dX6_bends_39 fX6_65 (by assumption) (by omega) ?_
    refine x_p2 (pc := 42) dX6_bends_42 wX2_part iX2_part kX6_183 (by decide) rfl (Nat.le_of_ble_eq_true rfl) PX1.ob (by omega) (t_part (d := d) hf hz hP (a := 2 + 3 * r) (by omega) (Ls1 r hr8).2 (szc_8 hS hr8) (hT r hr8) (hBs r hr8) hN (bs := 79) (by omega) (Ls1 r hr8).1 PX1 h01 S2' lr) (fun h42 e42 => ?_)
    obtain ⟨f42, pz2, u4, v4, S4, lk4⟩ := e42
    have Ca := C1'.keep (f42 0 (by omega)) (f42 1 (by omega))
    have Lsa := Ls1.kp (fun x h1 h2 => f42 x (by omega))
    have S3' := S3.keep (hp' := h42) (fun x h1 h2 => f42 x (by omega))
    have FFF : Fr hp h42 36 81 := fun x hx => (f42 x (by omega)).trans (f25 x (by omega))
    obtain ⟨C0, C1, C2, C3, C4, C5, C6, C7, C8, C9, g, gA, gB⟩ := id Ca
    have hobA := C0.ob
    refine x_aload_n (pc := 45) dX6_bends_45 rfl ?_
    refine x_aload_n (pc := 46) dX6_bends_46 rfl ?_
    refine x_gf (pc := 47) dX6_bends_47 fX6_31 (by assumption) (by omega) ?_
    refine x_iload_n (pc := 50) dX6_bends_50 rfl ?_
    refine x_al (pc := 51) dX6_bends_51 (by assumption) (by omega) rfl (by omega) (gB q hq8) ?_
    refine x_w1 (pc := 52) dX6_bends_52 wX6_mapsOfSpans iX6_mapsOfSpans kX6_187 (by decide) rfl (Nat.le_of_ble_eq_true rfl) hobA (by omega) (t_mos (d := d + 3) Ca hz hN S3' S4 lk3 lk4 (rA_rg (R := Rb q) (st := st q) (en := en q) hN.2) (rA_rg (R := Rb r) (st := st r) (en := en r) hN.2) lq lr (Lsa q hq8).1 (by omega) (Lsa q hq8).2) ?_
    rw [hmn_ls bq br]
    refine x_aload_n (pc := 55) dX6_bends_55 rfl ?_
    refine x_iload_n (pc := 56) dX6_bends_56 rfl ?_
    refine x_iload_n (pc := 57) dX6_bends_57 rfl ?_
    refine x_w2 (pc := 58) dX6_bends_58 wX6_form iX6_form kX6_191 (by decide) rfl (Nat.le_of_ble_eq_true rfl) hobA (by omega) (t_form6 (d := d + 3) Ca hz hN Lsa (x := (q : Int)) (y := (r : Int)) (by omega) (by omega)) ?_
    rw [if_pos (by omega)]
    simp only [Int.toNat_natCast]
    refine x_isub (pc := 61) dX6_bends_61 ?_
    refine x_iret (pc := 62) dX6_bends_62 rfl ⟨_, rfl, rfl, by rw [if_pos d1], FFF, pz2, ⟨_, _, _, S3'⟩, ⟨_, _, _, S4⟩⟩
  · have d1 := bz_e c6
    refine x_iconst (pc := 9) dX6_bends_9 ?_
    refine x_iret (pc := 10) dX6_bends_10 rfl ⟨_, rfl, rfl, by rw [if_neg d1], Fr.rf, ⟨Kc, PX, h0⟩, ⟨u1, v1, c1, S1⟩, ⟨u2, v2, c2, S2⟩⟩

set_option maxRecDepth 4000 in
theorem t_like6 {K : Type} [Lean.Grind.CommRing K] {f : Int → K} {G : GL} {d : Nat} {hp : HP} {sz p N : Nat} (hf : Iot p f) (C : ClsA hp p N) (hz : 92 ≤ sz) (hN : 1 ≤ N ∧ N ≤ 8) (hP : isP p) {S T : Nat → Nat → Int} {W : Nat → Nat} (Ls : LysA hp S T W) (hS : inS S) (hT : ∀ l, l < 8 → inL (T l) p) {Rb : Nat → Nat} {st en : Nat → Nat → Nat} {xb : Nat → Nat → Nat → Nat → K} (hBs : ∀ l, l < 8 → Bar N 4 (szc S l) (Lw (W l)) (TK f (T l) (Lw (W l)) (szc S l) 0) (Rb l) (st l) (en l) (xb l)) (Pz : PZ hp p N) (sp1 : ∃ u v c, SpA hp 76 u v c) (sp2 : ∃ u v c, SpA hp 79 u v c) {x : Int} (hx : -2147483648 ≤ x ∧ x < 2147483648) {y : Int} (hy : -2147483648 ≤ y ∧ y < 2147483648) : Ct G (d + 6) 0 0 mX6_like [vr 0, vi x, vi y] hp sz (Vs (fun v h => ∃ r : Bool, v = vi (bz r) ∧ (r = true ↔ 0 ≤ x ∧ x < 8 ∧ 0 ≤ y ∧ y < 8 ∧ W x.toNat = W y.toNat ∧ ∀ i k, i ≤ k → k < N → mul (Rb x.toNat) (st x.toNat) (en x.toNat) i k = mul (Rb y.toNat) (st y.toNat) (en y.toNat) i k) ∧ Fr hp h 36 81 ∧ PZ h p N ∧ (∃ u v c, SpA h 76 u v c) ∧ (∃ u v c, SpA h 79 u v c)) sz) := by
  show Ex _ _ _ _ _ _ [vr 0, vi x, vi y] _ _ _ _
  obtain ⟨C0, C1, C2, C3, C4, C5, C6, C7, C8, C9, g, gA, gB⟩ := id C
  have hob := C0.ob
  obtain ⟨Kc, PX, h0⟩ := Pz
  obtain ⟨u1, v1, c1, S1⟩ := sp1
  obtain ⟨u2, v2, c2, S2⟩ := sp2
  refine x_aload_n (pc := 0) dX6_like_0 rfl ?_
  refine x_iload_n (pc := 1) dX6_like_1 rfl ?_
  refine x_iload_n (pc := 2) dX6_like_2 rfl ?_
  refine x_w2 (pc := 3) dX6_like_3 wX6_haveSameWays iX6_haveSameWays kX6_127 (by decide) rfl (Nat.le_of_ble_eq_true rfl) (by assumption) (by omega) (t_haveSame C hz hN Ls hx hy) ?_
  refine x_if_ne (pc := 6) (tgt := 11) dX6_like_6 (by decide) (bz_rg _) (fun c6 => ?_) (fun c6 => ?_)
  · have d1 := bz_n c6
    obtain ⟨q, rfl⟩ : ∃ l : Nat, x = (l : Int) := ⟨x.toNat, by omega⟩
    obtain ⟨r, rfl⟩ : ∃ l : Nat, y = (l : Int) := ⟨y.toNat, by omega⟩
    simp only [Int.toNat_natCast] at d1 ⊢
    have hq8 : q < 8 := by omega
    have hr8 : r < 8 := by omega
    have bq := (hBs q hq8).1
    have br := (hBs r hr8).1
    have lq : (rA (mul (Rb q) (st q) (en q)) N N).length ≤ 32 := by rw [len_bars bq]; exact (hBs q hq8).le32 (hf.inv hP) (hf.ne hP.le.1) hN.2 (szc_4 hS hq8)
    have lr : (rA (mul (Rb r) (st r) (en r)) N N).length ≤ 32 := by rw [len_bars br]; exact (hBs r hr8).le32 (hf.inv hP) (hf.ne hP.le.1) hN.2 (szc_4 hS hr8)
    refine x_aload_n (pc := 11) dX6_like_11 rfl ?_
    refine x_gf (pc := 12) dX6_like_12 fX6_54 (by assumption) (by omega) ?_
    refine x_aload_n (pc := 15) dX6_like_15 rfl ?_
    refine x_gf (pc := 16) dX6_like_16 fX6_31 (by assumption) (by omega) ?_
    refine x_iload_n (pc := 19) dX6_like_19 rfl ?_
    refine x_al (pc := 20) dX6_like_20 (by assumption) (by omega) rfl (by omega) (gB q hq8) ?_
    refine x_aload_n (pc := 21) dX6_like_21 rfl ?_
    refine x_gf (pc := 22) dX6_like_22 fX6_61 (by assumption) (by omega) ?_
    refine x_p2 (pc := 25) dX6_like_25 wX2_part iX2_part kX6_183 (by decide) rfl (Nat.le_of_ble_eq_true rfl) PX.ob (by omega) (t_part (d := d) hf hz hP (a := 2 + 3 * q) (by omega) (Ls q hq8).2 (szc_8 hS hq8) (hT q hq8) (hBs q hq8) hN (bs := 76) (by omega) (Ls q hq8).1 PX h0 S1 lq) (fun h25 e25 => ?_)
    obtain ⟨f25, ⟨K1, PX1, h01⟩, u3, v3, S3, lk3⟩ := e25
    have C1' := C.keep (f25 0 (by omega)) (f25 1 (by omega))
    have Ls1 := Ls.kp (fun x h1 h2 => f25 x (by omega))
    have S2' := S2.keep (hp' := h25) (fun x h1 h2 => f25 x (by omega))
    obtain ⟨C0, C1, C2, C3, C4, C5, C6, C7, C8, C9, g, gA, gB⟩ := id C1'
    refine x_aload_n (pc := 28) dX6_like_28 rfl ?_
    refine x_gf (pc := 29) dX6_like_29 fX6_54 (by assumption) (by omega) ?_
    refine x_aload_n (pc := 32) dX6_like_32 rfl ?_
    refine x_gf (pc := 33) dX6_like_33 fX6_31 (by assumption) (by omega) ?_
    refine x_iload_n (pc := 36) dX6_like_36 rfl ?_
    refine x_al (pc := 37) dX6_like_37 (by assumption) (by omega) rfl (by omega) (gB r hr8) ?_
    refine x_aload_n (pc := 38) dX6_like_38 rfl ?_
    refine x_gf (pc := 39) dX6_like_39 fX6_65 (by assumption) (by omega) ?_
    refine x_p2 (pc := 42) dX6_like_42 wX2_part iX2_part kX6_183 (by decide) rfl (Nat.le_of_ble_eq_true rfl) PX1.ob (by omega) (t_part (d := d) hf hz hP (a := 2 + 3 * r) (by omega) (Ls1 r hr8).2 (szc_8 hS hr8) (hT r hr8) (hBs r hr8) hN (bs := 79) (by omega) (Ls1 r hr8).1 PX1 h01 S2' lr) (fun h42 e42 => ?_)
    obtain ⟨f42, pz2, u4, v4, S4, lk4⟩ := e42
    have Ca := C1'.keep (f42 0 (by omega)) (f42 1 (by omega))
    have Lsa := Ls1.kp (fun x h1 h2 => f42 x (by omega))
    have S3' := S3.keep (hp' := h42) (fun x h1 h2 => f42 x (by omega))
    have FFF : Fr hp h42 36 81 := fun x hx => (f42 x (by omega)).trans (f25 x (by omega))
    obtain ⟨C0, C1, C2, C3, C4, C5, C6, C7, C8, C9, g, gA, gB⟩ := id Ca
    have hobA := C0.ob
    refine x_aload_n (pc := 45) dX6_like_45 rfl ?_
    refine x_gf (pc := 46) dX6_like_46 fX6_61 (by assumption) (by omega) ?_
    refine x_aload_n (pc := 49) dX6_like_49 rfl ?_
    refine x_gf (pc := 50) dX6_like_50 fX6_65 (by assumption) (by omega) ?_
    refine x_y1 (pc := 53) dX6_like_53 wX4_areSame iX4_areSame kX6_201 (by decide) rfl (Nat.le_of_ble_eq_true rfl) S3'.ob (by omega) (t_areSame S3' (by omega) S4 (by omega) lq (by omega) (fun i hi => by obtain ⟨z1, z2⟩ := lk3 i hi; rw [Nat.zero_add] at z1 z2; have := (rA_rg (R := Rb q) (st := st q) (en := en q) hN.2) i hi; omega) (fun i hi => by obtain ⟨z1, z2⟩ := lk4 i hi; rw [Nat.zero_add] at z1 z2; have := (rA_rg (R := Rb r) (st := st r) (en := en r) hN.2) i hi; omega)) (fun v53 h53 e53 => ?_)
    obtain ⟨rfl, rb, rfl, hrb⟩ := e53
    refine x_zret (pc := 56) dX6_like_56 rfl (bz_01 _) ⟨_, rfl, rfl, rb, rfl, by
      rw [hrb]
      have key : (rA (mul (Rb q) (st q) (en q)) N N).length = (rA (mul (Rb r) (st r) (en r)) N N).length ∧ (∀ j, j < (rA (mul (Rb q) (st q) (en q)) N N).length → u3 j = u4 j ∧ v3 j = v4 j) ↔ rA (mul (Rb q) (st q) (en q)) N N = rA (mul (Rb r) (st r) (en r)) N N := by
        constructor
        · rintro ⟨z1, z2⟩
          refine list_eq z1 (fun i hi => ?_)
          obtain ⟨y1, y2⟩ := lk3 i hi
          obtain ⟨y3, y4⟩ := lk4 i (by omega)
          obtain ⟨y5, y6⟩ := z2 i hi
          rw [Nat.zero_add] at y1 y2 y3 y4
          exact Prod.ext (by omega) (by omega)
        · intro z
          refine ⟨by rw [z], fun j hj => ?_⟩
          obtain ⟨y1, y2⟩ := lk3 j hj
          obtain ⟨y3, y4⟩ := lk4 j (by rw [← z]; exact hj)
          rw [Nat.zero_add] at y1 y2 y3 y4
          rw [← z] at y3 y4
          exact ⟨y1.trans y3.symm, y2.trans y4.symm⟩
      rw [key, lists_mul bq br]
      exact ⟨fun z => ⟨d1.1, d1.2.1, d1.2.2.1, d1.2.2.2.1, d1.2.2.2.2, z⟩, fun z => z.2.2.2.2.2⟩, FFF, pz2, ⟨_, _, _, S3'⟩, ⟨_, _, _, S4⟩⟩
  · have d1 := bz_e c6
    refine x_iconst (pc := 9) dX6_like_9 ?_
    refine x_zret (pc := 10) dX6_like_10 rfl (Or.inl rfl) ⟨_, rfl, rfl, false, rfl, ⟨fun h => absurd h (by decide), fun h => absurd ⟨h.1, h.2.1, h.2.2.1, h.2.2.2.1, h.2.2.2.2.1⟩ d1⟩, Fr.rf, ⟨Kc, PX, h0⟩, ⟨u1, v1, c1, S1⟩, ⟨u2, v2, c2, S2⟩⟩

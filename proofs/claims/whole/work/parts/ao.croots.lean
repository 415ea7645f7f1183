/-! the class's kind and roots -/
def rcP (pn : Nat → Nat) (L : Nat → Int) (n : Nat) (v : Int) : Prop := (bpF L n (-1) ∧ v = ((n : Int) * ((n : Int) + 1)).tdiv 2) ∨ ∃ br : Nat, bpF L n br ∧ br < n ∧ ((2 ≤ ebF pn L br n ∧ v = (n : Int) * ((n : Int) - 1)) ∨ (ebF pn L br n < 2 ∧ v = if n = 6 then 36 else if n = 7 then 63 else 120))
theorem nn9 {n : Nat} (hn : 1 ≤ n ∧ n ≤ 9) : 0 ≤ (n : Int) * ((n : Int) + 1) ∧ (n : Int) * ((n : Int) + 1) ≤ 90 := by
  have h1 := Int.mul_nonneg (show 0 ≤ (n : Int) by omega) (show 0 ≤ (n : Int) + 1 by omega)
  have h2 := Int.mul_le_mul (show (n : Int) ≤ 9 by omega) (show (n : Int) + 1 ≤ 10 by omega) (by omega) (by omega)
  omega
theorem bpF.neg {L : Nat → Int} {n : Nat} {w : Int} (h : bpF L n w) (e : w ≠ -1) : ∃ k : Nat, w = (k : Int) ∧ k < n ∧ bpF L n k := by
  rcases h with q | ⟨k, q1, q2, q3⟩
  · exact absurd q.1 e
  · exact ⟨k, q1, q2, Or.inr ⟨k, rfl, q2, q3⟩⟩
theorem bpF.rg {L : Nat → Int} {n : Nat} {w : Int} (hn : n ≤ 9) (h : bpF L n w) : -1 ≤ w ∧ w < 9 := by
  rcases h with q | ⟨k, q1, q2, q3⟩
  · omega
  · omega

set_option maxRecDepth 4000 in
theorem t_rootCount {G : GL} {d : Nat} {hp : HP} {sz : Nat} (hz : 92 ≤ sz) {n : Nat} (hn : 1 ≤ n ∧ n ≤ 9) {pa li ab be : Nat → Int} {pn : Nat → Nat} (hpn : ∀ j, 1 ≤ j → j < n → pa j = (pn j : Int) ∧ pn j < j) (ta : TrA hp pa li ab be n) : Ct G (d + 2) 0 0 mX5_rootCount [vr 87] hp sz (Vs (fun v h => ∃ w : Int, v = vi w ∧ rcP pn (lnF pn (fun j => if j < 9 then 0 else li j) n) n w ∧ Fr hp h 89 89 ∧ ∃ li1, TrA h pa li1 ab be n) sz) := by
  show Ex _ _ _ _ _ _ [vr 87, vu] _ _ _ _
  have hob := ta.ob
  refine x_aload_n (pc := 0) dX5_rootCount_0 rfl ?_
  refine x_p0 (pc := 1) dX5_rootCount_1 wX5_countLines iX5_countLines kX5_34 (by decide) rfl (Nat.le_of_ble_eq_true rfl) (by assumption) (by omega) (t_countLines (d := d) hz hn hpn ta) (fun h1 e1 => ?_)
  obtain ⟨ta1, ff⟩ := e1
  obtain ⟨P1, P2, P3, P4, P5, P6, P7, P8, P9⟩ := id ta1
  have hob1 := ta1.ob
  have hL : ∀ j, j < 9 → 0 ≤ (lnF pn (fun j => if j < 9 then 0 else li j) n) j ∧ (lnF pn (fun j => if j < 9 then 0 else li j) n) j ≤ 100 := fun j hj => by
    have := lnF_rg (pn := pn) (L0 := fun j => if j < 9 then 0 else li j) (fun j hj => if_pos hj) n j hj
    omega
  refine x_aload_n (pc := 4) dX5_rootCount_4 rfl ?_
  refine x_y0 (pc := 5) dX5_rootCount_5 wX5_branchPost iX5_branchPost kX5_37 (by decide) rfl (Nat.le_of_ble_eq_true rfl) (by assumption) (by omega) (t_branchPost (d := d + 1) hz hn ta1 hL) (fun v5 h5 e5 => ?_)
  obtain ⟨e5, w, e6, hb⟩ := e5
  subst e5
  subst e6
  have hw := hb.rg hn.2
  refine x_istore_n (pc := 8) dX5_rootCount_8 (by decide) rfl ?_
  show Ex _ _ _ _ _ _ [_, _] _ _ _ _
  refine x_iload_n (pc := 9) dX5_rootCount_9 rfl ?_
  refine x_iconst (pc := 10) dX5_rootCount_10 ?_
  refine x_icmp_ne (pc := 11) (tgt := 28) dX5_rootCount_11 (by decide) (by omega) (by omega) (fun c11 => ?_) (fun c11 => ?_)
  · obtain ⟨br, rfl, hbr, hb2⟩ := hb.neg c11
    have hle := ebF_le (pn := pn) (L := lnF pn (fun j => if j < 9 then 0 else li j) n) (br := br) n
    refine x_aload_n (pc := 28) dX5_rootCount_28 rfl ?_
    refine x_iload_n (pc := 29) dX5_rootCount_29 rfl ?_
    refine x_w1 (pc := 30) dX5_rootCount_30 wX5_endsBeside iX5_endsBeside kX5_41 (by decide) rfl (Nat.le_of_ble_eq_true rfl) (by assumption) (by omega) (t_endsBeside (d := d + 1) hz hn hpn ta1 hL hbr) ?_
    refine x_iconst (pc := 33) dX5_rootCount_33 ?_
    refine x_icmp_lt (pc := 34) (tgt := 49) dX5_rootCount_34 (by decide) (by omega) (by omega) (fun c34 => ?_) (fun c34 => ?_)
    · refine x_aload_n (pc := 49) dX5_rootCount_49 rfl ?_
      refine x_gf (pc := 50) dX5_rootCount_50 fX5_24 (by assumption) (by omega) ?_
      by_cases h6 : n = 6
      · subst h6
        refine x_lookup (pc := 53) (tgt := 80) (off := 27) dX5_rootCount_53 (by decide) (by decide) (by decide) (by decide) ?_
        have h6 : (6 : Nat) = 6 := rfl
        refine x_bipush (pc := 80) dX5_rootCount_80 (by decide) ?_
        refine x_iret (pc := 82) dX5_rootCount_82 rfl ⟨_, rfl, rfl, _, rfl, Or.inr ⟨br, hb2, hbr, Or.inr ⟨by omega, by rw [if_pos h6]⟩⟩, ff, _, ta1⟩
      by_cases h7 : n = 7
      · subst h7
        refine x_lookup (pc := 53) (tgt := 83) (off := 30) dX5_rootCount_53 (by decide) (by decide) (by decide) (by decide) ?_
        have h7 : (7 : Nat) = 7 := rfl
        refine x_bipush (pc := 83) dX5_rootCount_83 (by decide) ?_
        refine x_iret (pc := 85) dX5_rootCount_85 rfl ⟨_, rfl, rfl, _, rfl, Or.inr ⟨br, hb2, hbr, Or.inr ⟨by omega, by rw [if_neg h6, if_pos h7]⟩⟩, ff, _, ta1⟩
      have i6 : ((n : Nat) : Int) ≠ 6 := by omega
      have i7 : ((n : Nat) : Int) ≠ 7 := by omega
      refine x_lookup (pc := 53) (tgt := 86) (off := 33) dX5_rootCount_53 (by decide) (by omega) (by simp [Op.lookupswitch.offset, i6, i7, Ne.symm i6, Ne.symm i7]) (by decide) ?_
      refine x_bipush (pc := 86) dX5_rootCount_86 (by decide) ?_
      refine x_iret (pc := 88) dX5_rootCount_88 rfl ⟨_, rfl, rfl, _, rfl, Or.inr ⟨br, hb2, hbr, Or.inr ⟨by omega, by rw [if_neg h6, if_neg h7]⟩⟩, ff, _, ta1⟩
    · refine x_aload_n (pc := 37) dX5_rootCount_37 rfl ?_
      refine x_gf (pc := 38) dX5_rootCount_38 fX5_24 (by assumption) (by omega) ?_
      refine x_aload_n (pc := 41) dX5_rootCount_41 rfl ?_
      refine x_gf (pc := 42) dX5_rootCount_42 fX5_24 (by assumption) (by omega) ?_
      refine x_iconst (pc := 45) dX5_rootCount_45 ?_
      refine x_isub (pc := 46) dX5_rootCount_46 ?_
      refine x_imul (pc := 47) dX5_rootCount_47 ?_
      refine x_iret (pc := 48) dX5_rootCount_48 rfl ⟨_, rfl, rfl, _, rfl, Or.inr ⟨br, hb2, hbr, Or.inl ⟨by omega, rfl⟩⟩, ff, _, ta1⟩
  · refine x_aload_n (pc := 14) dX5_rootCount_14 rfl ?_
    refine x_gf (pc := 15) dX5_rootCount_15 fX5_24 (by assumption) (by omega) ?_
    refine x_aload_n (pc := 18) dX5_rootCount_18 rfl ?_
    refine x_gf (pc := 19) dX5_rootCount_19 fX5_24 (by assumption) (by omega) ?_
    refine x_iconst (pc := 22) dX5_rootCount_22 ?_
    refine x_iadd (pc := 23) dX5_rootCount_23 ?_
    refine x_imul (pc := 24) dX5_rootCount_24 ?_
    refine x_iconst (pc := 25) dX5_rootCount_25 ?_
    refine x_idiv (pc := 26) dX5_rootCount_26 (by have := nn9 hn; omega) (by omega) ?_
    refine x_iret (pc := 27) dX5_rootCount_27 rfl ⟨_, rfl, rfl, _, rfl, Or.inl ⟨by rw [← c11]; exact hb, rfl⟩, ff, _, ta1⟩

set_option maxRecDepth 4000 in
theorem t_kind6 {G : GL} {d : Nat} {hp : HP} {sz : Nat} {p N : Nat} (C : ClsA hp p N) (hz : 92 ≤ sz) (hN : 1 ≤ N ∧ N ≤ 8) {pa li ab be : Nat → Int} {s : Int} (ta : TrA hp pa li ab be s) {x : Int} (hx : -2147483648 ≤ x ∧ x < 2147483648) {y : Int} (hy : -2147483648 ≤ y ∧ y < 2147483648) : Ct G (d + 2) 0 0 mX6_kind [vr 0, vi x, vi y] hp sz (Vs (fun v h => (isTr x y → v = vi (kdT (dg y.toNat) x.toNat)) ∧ (¬ isTr x y → v = vi (-1)) ∧ Fr hp h 87 91 ∧ ∃ pa li ab be s, TrA h pa li ab be s) sz) := by
  show Ex _ _ _ _ _ _ [vr 0, vi x, vi y] _ _ _ _
  obtain ⟨C0, C1, C2, C3, C4, C5, C6, C7, C8, C9, g, gA, gB⟩ := id C
  have hob := C0.ob
  refine x_aload_n (pc := 0) dX6_kind_0 rfl ?_
  refine x_gf (pc := 1) dX6_kind_1 fX6_78 (by assumption) (by omega) ?_
  refine x_iload_n (pc := 4) dX6_kind_4 rfl ?_
  refine x_iload_n (pc := 5) dX6_kind_5 rfl ?_
  refine x_y2 (pc := 6) dX6_kind_6 wX5_read iX5_read kX6_216 (by decide) rfl (Nat.le_of_ble_eq_true rfl) ta.ob (by omega) (t_read (d := d + 1) hz ta hx hy) (fun v6 h6 e6 => ?_)
  obtain ⟨rb, e1, e2, ff1, pa1, s1, ta1, e3⟩ := e6
  subst e1
  have Cb := C.keep (ff1 0 (by omega)) (ff1 1 (by omega))
  obtain ⟨C0, C1, C2, C3, C4, C5, C6, C7, C8, C9, g, gA, gB⟩ := id Cb
  have hob1 := C0.ob
  refine x_if_eq (pc := 9) (tgt := 22) dX6_kind_9 (by decide) (by rcases bz_01 rb with h | h <;> rw [h] <;> decide) (fun c9 => ?_) (fun c9 => ?_)
  · have hrb : rb = false := by cases rb with | false => rfl | true => exact absurd c9 (by decide)
    refine x_iconst (pc := 22) dX6_kind_22 ?_
    refine x_iret (pc := 23) dX6_kind_23 rfl (by first | exact ⟨_, rfl, rfl, fun _ => by rw [Int.toNat_natCast], fun q => absurd ht q, (ff1.wide (by omega) (by omega)).tr (ff2.wide (by omega) (by omega)), _, _, _, _, _, ta2⟩ | exact ⟨_, rfl, rfl, fun q => absurd (e2.2 q) (by rw [hrb]; decide), fun _ => rfl, ff1.wide (by omega) (by omega), _, _, _, _, _, ta1⟩)
  · have hrb : rb = true := by cases rb with | true => rfl | false => exact absurd rfl c9
    have ht := e2.1 hrb
    obtain ⟨m, rfl⟩ : ∃ m : Nat, x = (m : Int) := ⟨x.toNat, (Int.toNat_of_nonneg (by have := ht.1; omega)).symm⟩
    obtain ⟨e4, e5⟩ := e3 hrb
    subst e4
    have hn9 : 1 ≤ m ∧ m ≤ 9 := ⟨by have := ht.1; omega, by have := ht.2.1; omega⟩
    have hpn9 : ∀ j, 1 ≤ j → j < m → pa1 j = (dg y.toNat j : Int) ∧ dg y.toNat j < j := fun j h1 h2 => ⟨e5 j h1 (by rw [Int.toNat_natCast]; exact h2), ht.2.2.2.1 j h1 (by rw [Int.toNat_natCast]; exact h2)⟩
    refine x_aload_n (pc := 12) dX6_kind_12 rfl ?_
    refine x_gf (pc := 13) dX6_kind_13 fX6_78 (by assumption) (by omega) ?_
    refine x_y0 (pc := 16) dX6_kind_16 wX5_kindOf iX5_kindOf kX6_219 (by decide) rfl (Nat.le_of_ble_eq_true rfl) ta1.ob (by omega) (t_kindOf (d := d) hz hn9 hpn9 ta1) (fun v16 h16 e16 => ?_)
    obtain ⟨e7, ff2, ab1, be1, ta2⟩ := e16
    subst e7
    refine x_goto (pc := 19) (tgt := 23) dX6_kind_19 (by decide) ?_
    refine x_iret (pc := 23) dX6_kind_23 rfl (by first | exact ⟨_, rfl, rfl, fun _ => by rw [Int.toNat_natCast], fun q => absurd ht q, (ff1.wide (by omega) (by omega)).tr (ff2.wide (by omega) (by omega)), _, _, _, _, _, ta2⟩ | exact ⟨_, rfl, rfl, fun q => absurd (e2.2 q) (by rw [hrb]; decide), fun _ => rfl, ff1.wide (by omega) (by omega), _, _, _, _, _, ta1⟩)

set_option maxRecDepth 4000 in
theorem t_roots6 {G : GL} {d : Nat} {hp : HP} {sz : Nat} {p N : Nat} (C : ClsA hp p N) (hz : 92 ≤ sz) (hN : 1 ≤ N ∧ N ≤ 8) {pa li ab be : Nat → Int} {s : Int} (ta : TrA hp pa li ab be s) {x : Int} (hx : -2147483648 ≤ x ∧ x < 2147483648) {y : Int} (hy : -2147483648 ≤ y ∧ y < 2147483648) : Ct G (d + 3) 0 0 mX6_roots [vr 0, vi x, vi y] hp sz (Vs (fun v h => (isTr x y → kdT (dg y.toNat) x.toNat ≠ 1 → v = vi 0) ∧ (isTr x y → kdT (dg y.toNat) x.toNat = 1 → ∃ (w : Int) (li : Nat → Int), v = vi w ∧ rcP (dg y.toNat) (lnF (dg y.toNat) (fun j => if j < 9 then 0 else li j) x.toNat) x.toNat w) ∧ (¬ isTr x y → v = vi (-1)) ∧ Fr hp h 87 91 ∧ ∃ pa li ab be s, TrA h pa li ab be s) sz) := by
  show Ex _ _ _ _ _ _ [vr 0, vi x, vi y] _ _ _ _
  obtain ⟨C0, C1, C2, C3, C4, C5, C6, C7, C8, C9, g, gA, gB⟩ := id C
  have hob := C0.ob
  refine x_aload_n (pc := 0) dX6_roots_0 rfl ?_
  refine x_gf (pc := 1) dX6_roots_1 fX6_78 (by assumption) (by omega) ?_
  refine x_iload_n (pc := 4) dX6_roots_4 rfl ?_
  refine x_iload_n (pc := 5) dX6_roots_5 rfl ?_
  refine x_y2 (pc := 6) dX6_roots_6 wX5_read iX5_read kX6_216 (by decide) rfl (Nat.le_of_ble_eq_true rfl) ta.ob (by omega) (t_read (d := d + 2) hz ta hx hy) (fun v6 h6 e6 => ?_)
  obtain ⟨rb, e1, e2, ff1, pa1, s1, ta1, e3⟩ := e6
  subst e1
  have Cb := C.keep (ff1 0 (by omega)) (ff1 1 (by omega))
  obtain ⟨C0, C1, C2, C3, C4, C5, C6, C7, C8, C9, g, gA, gB⟩ := id Cb
  have hob1 := C0.ob
  refine x_if_ne (pc := 9) (tgt := 14) dX6_roots_9 (by decide) (by rcases bz_01 rb with h | h <;> rw [h] <;> decide) (fun c9 => ?_) (fun c9 => ?_)
  · have hrb : rb = true := by cases rb with | true => rfl | false => exact absurd rfl c9
    have ht := e2.1 hrb
    obtain ⟨m, rfl⟩ : ∃ m : Nat, x = (m : Int) := ⟨x.toNat, (Int.toNat_of_nonneg (by have := ht.1; omega)).symm⟩
    obtain ⟨e4, e5⟩ := e3 hrb
    subst e4
    have hn9 : 1 ≤ m ∧ m ≤ 9 := ⟨by have := ht.1; omega, by have := ht.2.1; omega⟩
    have hpn9 : ∀ j, 1 ≤ j → j < m → pa1 j = (dg y.toNat j : Int) ∧ dg y.toNat j < j := fun j h1 h2 => ⟨e5 j h1 (by rw [Int.toNat_natCast]; exact h2), ht.2.2.2.1 j h1 (by rw [Int.toNat_natCast]; exact h2)⟩
    rw [Int.toNat_natCast]
    refine x_aload_n (pc := 14) dX6_roots_14 rfl ?_
    refine x_gf (pc := 15) dX6_roots_15 fX6_78 (by assumption) (by omega) ?_
    refine x_y0 (pc := 18) dX6_roots_18 wX5_kindOf iX5_kindOf kX6_219 (by decide) rfl (Nat.le_of_ble_eq_true rfl) ta1.ob (by omega) (t_kindOf (d := d + 1) hz hn9 hpn9 ta1) (fun v18 h18 e18 => ?_)
    obtain ⟨e7, ff2, ab1, be1, ta2⟩ := e18
    subst e7
    have kv : kdT (dg y.toNat) m = 1 ∨ kdT (dg y.toNat) m = 2 ∨ kdT (dg y.toNat) m = 3 := kd_val (dg y.toNat) (m - 1) (fun _ => 2) (fun _ => 1)
    have Cc := Cb.keep (ff2 0 (by omega)) (ff2 1 (by omega))
    obtain ⟨C0, C1, C2, C3, C4, C5, C6, C7, C8, C9, g, gA, gB⟩ := id Cc
    have hob2 := C0.ob
    refine x_iconst (pc := 21) dX6_roots_21 ?_
    refine x_icmp_ne (pc := 22) (tgt := 35) dX6_roots_22 (by decide) (by omega) (by omega) (fun c22 => ?_) (fun c22 => ?_)
    · refine x_iconst (pc := 35) dX6_roots_35 ?_
      refine x_iret (pc := 36) dX6_roots_36 rfl (by first | exact ⟨_, rfl, rfl, fun _ q => absurd c22 q, fun _ _ => ⟨w, li, rfl, e9⟩, fun q => absurd ht q, ((ff1.wide (by omega) (by omega)).tr (ff2.wide (by omega) (by omega))).tr (ff3.wide (by omega) (by omega)), _, _, _, _, _, ta3⟩ | exact ⟨_, rfl, rfl, fun _ _ => rfl, fun _ q => absurd q c22, fun q => absurd ht q, (ff1.wide (by omega) (by omega)).tr (ff2.wide (by omega) (by omega)), _, _, _, _, _, ta2⟩)
    · refine x_aload_n (pc := 25) dX6_roots_25 rfl ?_
      refine x_gf (pc := 26) dX6_roots_26 fX6_78 (by assumption) (by omega) ?_
      refine x_y0 (pc := 29) dX6_roots_29 wX5_rootCount iX5_rootCount kX6_222 (by decide) rfl (Nat.le_of_ble_eq_true rfl) ta2.ob (by omega) (t_rootCount (d := d) hz hn9 hpn9 ta2) (fun v29 h29 e29 => ?_)
      obtain ⟨w, e8, e9, ff3, li1, ta3⟩ := e29
      subst e8
      refine x_goto (pc := 32) (tgt := 36) dX6_roots_32 (by decide) ?_
      refine x_iret (pc := 36) dX6_roots_36 rfl (by first | exact ⟨_, rfl, rfl, fun _ q => absurd c22 q, fun _ _ => ⟨w, li, rfl, e9⟩, fun q => absurd ht q, ((ff1.wide (by omega) (by omega)).tr (ff2.wide (by omega) (by omega))).tr (ff3.wide (by omega) (by omega)), _, _, _, _, _, ta3⟩ | exact ⟨_, rfl, rfl, fun _ _ => rfl, fun _ q => absurd q c22, fun q => absurd ht q, (ff1.wide (by omega) (by omega)).tr (ff2.wide (by omega) (by omega)), _, _, _, _, _, ta2⟩)
  · have hrb : rb = false := by cases rb with | false => rfl | true => exact absurd c9 (by decide)
    refine x_iconst (pc := 12) dX6_roots_12 ?_
    refine x_iret (pc := 13) dX6_roots_13 rfl ⟨_, rfl, rfl, fun q => absurd (e2.2 q) (by rw [hrb]; decide), fun q => absurd (e2.2 q) (by rw [hrb]; decide), fun _ => rfl, ff1.wide (by omega) (by omega), _, _, _, _, _, ta1⟩

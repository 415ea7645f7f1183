/-! the class's kind of a tree -/
theorem TrA.uab {h : HP} {pa li ab be q : Nat → Int} {s : Int} (t : TrA h pa li ab be s) : TrA (up h 90 (ar 0 9 q)) pa li q be s := by
  obtain ⟨p1, p2, p3, p4, p5, p6, p7, p8, p9⟩ := t
  exact ⟨p1.keep (up_n _ _ (by omega)), p2.keep (up_n _ _ (by omega)), p3.keep (up_n _ _ (by omega)), p4.keep (up_n _ _ (by omega)), p5.keep (up_n _ _ (by omega)), (up_n _ _ (by omega)).trans p6, (up_n _ _ (by omega)).trans p7, up_s _ _ _, (up_n _ _ (by omega)).trans p9⟩
theorem TrA.ube {h : HP} {pa li ab be q : Nat → Int} {s : Int} (t : TrA h pa li ab be s) : TrA (up h 91 (ar 0 9 q)) pa li ab q s := by
  obtain ⟨p1, p2, p3, p4, p5, p6, p7, p8, p9⟩ := t
  exact ⟨p1.keep (up_n _ _ (by omega)), p2.keep (up_n _ _ (by omega)), p3.keep (up_n _ _ (by omega)), p4.keep (up_n _ _ (by omega)), p5.keep (up_n _ _ (by omega)), (up_n _ _ (by omega)).trans p6, (up_n _ _ (by omega)).trans p7, (up_n _ _ (by omega)).trans p8, up_s _ _ _⟩
theorem kd_cg (P : Nat → Nat) : ∀ k, (∀ i, 0 < i → i ≤ k → P i < i) → ∀ a b a' b' : Nat → Int, (∀ i, i ≤ k → a i = a' i ∧ b i = b' i) → kd P k a b = kd P k a' b'
  | 0, _, a, b, a', b', h => by rw [kd, kd, (h 0 (Nat.le_refl _)).1]
  | k + 1, hP, a, b, a', b', h => by
    rw [kd, kd, (h (k + 1) (Nat.le_refl _)).1, kd_cg P k (fun i h1 h2 => hP i h1 (by omega)) (uaT P (k + 1) a b) (ubT P (k + 1) a b) (uaT P (k + 1) a' b') (ubT P (k + 1) a' b') (fun i hi => by
      unfold uaT ubT
      rw [(h i (by omega)).1, (h i (by omega)).2, (h (k + 1) (Nat.le_refl _)).1, (h (k + 1) (Nat.le_refl _)).2]
      exact ⟨rfl, rfl⟩)]
def sw (w : Nat → Nat) : Nat → Nat
  | 0 => 0
  | k + 1 => sw w k + w k
theorem sw_le (w : Nat → Nat) : ∀ k i, i < k → w i ≤ sw w k
  | 0, _, h => by omega
  | k + 1, i, h => by
    rw [sw]
    by_cases e : i = k
    · rw [e]; omega
    · have := sw_le w k i (by omega); omega
theorem sw_up (w : Nat → Nat) (t x : Nat) : ∀ k, t < k → sw (up w t (w t + x)) k = sw w k + x
  | 0, h => by omega
  | k + 1, h => by
    rw [sw, sw]
    by_cases e : t = k
    · subst e
      have : ∀ j, j ≤ t → sw (up w t (w t + x)) j = sw w j := fun j => by
        induction j with
        | zero => intro _; rfl
        | succ j ih => intro l; rw [sw, sw, ih (by omega), up_n _ _ (by omega)]
      rw [this t (Nat.le_refl _), up_s]; omega
    · rw [sw_up w t x k (by omega), up_n _ _ (by omega)]; omega
def BnT (w : Nat → Nat) (k : Nat) (a b : Nat → Int) : Prop := sw w (k + 1) ≤ 9 ∧ ∀ i, i ≤ k → 1 ≤ w i ∧ (a i).natAbs ≤ 2 ^ (2 * w i - 1) ∧ (b i).natAbs ≤ 2 ^ (2 * w i - 1)
theorem BnT.at {w : Nat → Nat} {k : Nat} {a b : Nat → Int} (h : BnT w k a b) {i : Nat} (hi : i ≤ k) : (a i).natAbs ≤ 131072 ∧ (b i).natAbs ≤ 131072 := by
  obtain ⟨h1, h2⟩ := h
  obtain ⟨g1, g2, g3⟩ := h2 i hi
  have l := sw_le w (k + 1) i (by omega)
  have q : 2 ^ (2 * w i - 1) ≤ 2 ^ 17 := Nat.pow_le_pow_right (by decide) (by omega)
  rw [show 2 ^ 17 = 131072 from rfl] at q
  omega
theorem pw2 {x y u v : Int} {p q : Nat} (hp : 1 ≤ p) (hq : 1 ≤ q) (hx : x.natAbs ≤ 2 ^ (2 * p - 1)) (hy : y.natAbs ≤ 2 ^ (2 * q - 1)) (hu : u.natAbs ≤ 2 ^ (2 * p - 1)) (hv : v.natAbs ≤ 2 ^ (2 * q - 1)) : (x * y).natAbs ≤ 2 ^ (2 * (p + q) - 1) ∧ (x * y - u * v).natAbs ≤ 2 ^ (2 * (p + q) - 1) := by
  have e : 2 ^ (2 * (p + q) - 1) = 2 * (2 ^ (2 * p - 1) * 2 ^ (2 * q - 1)) := by
    rw [← Nat.pow_add, ← Nat.pow_succ']
    congr 1
    omega
  have a1 := Nat.mul_le_mul hx hy
  have a2 := Nat.mul_le_mul hu hv
  rw [← Int.natAbs_mul] at a1 a2
  omega
theorem BnT.st {w : Nat → Nat} {k : Nat} {a b : Nat → Int} {P : Nat → Nat} (h : BnT w (k + 1) a b) (ht : P (k + 1) < k + 1) : BnT (up w (P (k + 1)) (w (P (k + 1)) + w (k + 1))) k (uaT P (k + 1) a b) (ubT P (k + 1) a b) := by
  obtain ⟨h1, h2⟩ := h
  refine ⟨?_, fun i hi => ?_⟩
  · rw [sw_up w _ _ (k + 1) ht]
    rw [sw] at h1
    exact h1
  · obtain ⟨k1, k2, k3⟩ := h2 (k + 1) (Nat.le_refl _)
    unfold uaT ubT
    by_cases e : i = P (k + 1)
    · obtain ⟨t1, t2, t3⟩ := h2 i (by omega)
      rw [if_pos e, if_pos e, ← e, up_s]
      have := pw2 t1 k1 t2 k2 t3 k3
      have g := pw2 t1 k1 t3 k2 t3 k3
      exact ⟨by omega, this.2, g.1⟩
    · rw [if_neg e, if_neg e, up_n _ _ e]
      exact h2 i (by omega)
theorem uaT_up (P : Nat → Nat) (k : Nat) (a b : Nat → Int) : up a (P k) (a (P k) * a k - b (P k) * b k) = uaT P k a b := by
  funext i; unfold up uaT; split
  · rename_i e; rw [e]
  · rfl
theorem ubT_up (P : Nat → Nat) (k : Nat) (a b : Nat → Int) : up b (P k) (b (P k) * a k) = ubT P k a b := by
  funext i; unfold up ubT; split
  · rename_i e; rw [e]
  · rfl

theorem k_kindOf {G : GL} {d sz : Nat} (hz : 92 ≤ sz) {n : Nat} (hn : 1 ≤ n ∧ n ≤ 9) {pa li : Nat → Int} {pn : Nat → Nat} (hpn : ∀ j, 1 ≤ j → j < n → pa j = (pn j : Int) ∧ pn j < j) {v0 : Int} {hp0 : HP} {Q : Option AV → HP → Nat → Prop} (hq : ∀ h ab be, TrA h pa li ab be n → Fr hp0 h 90 91 → ∀ v, v = v0 → Q (some (vi v)) h sz) : ∀ k, k < n → ∀ (l2 : AV) hp ab be w, TrA hp pa li ab be n → Fr hp0 hp 90 91 → BnT w k ab be → kd pn k ab be = v0 → Ex G d 0 0 mX5_kindOf 23 [vr 87, vi k, l2] [] hp sz Q := by
  intro k
  induction k with
  | zero =>
    intro hk l2 hp ab be w ta ff bn hv
    obtain ⟨P1, P2, P3, P4, P5, P6, P7, P8, P9⟩ := id ta
    have hob := ta.ob
    refine x_iload_n (pc := 23) dX5_kindOf_23 rfl ?_
    refine x_if_le (pc := 24) (tgt := 99) dX5_kindOf_24 (by decide) (by omega) (fun c24 => ?_) (fun c24 => ?_)
    · refine x_aload_n (pc := 99) dX5_kindOf_99 rfl ?_
      refine x_gf (pc := 100) dX5_kindOf_100 fX5_18 (by assumption) (by omega) ?_
      refine x_iconst (pc := 103) dX5_kindOf_103 ?_
      refine x_il (pc := 104) (j := 0) dX5_kindOf_104 (by assumption) (by omega) rfl (by decide) ?_
      refine x_if_le (pc := 105) (tgt := 110) dX5_kindOf_105 (by decide) (by have := (bn.at (Nat.le_refl 0)).1; omega) (fun c105 => ?_) (fun c105 => ?_)
      · refine x_aload_n (pc := 110) dX5_kindOf_110 rfl ?_
        refine x_gf (pc := 111) dX5_kindOf_111 fX5_18 (by assumption) (by omega) ?_
        refine x_iconst (pc := 114) dX5_kindOf_114 ?_
        refine x_il (pc := 115) (j := 0) dX5_kindOf_115 (by assumption) (by omega) rfl (by decide) ?_
        refine x_if_ne (pc := 116) (tgt := 123) dX5_kindOf_116 (by decide) (by have := (bn.at (Nat.le_refl 0)).1; omega) (fun c116 => ?_) (fun c116 => ?_)
        · refine x_iconst (pc := 123) dX5_kindOf_123 ?_
          refine x_iret (pc := 124) dX5_kindOf_124 rfl (hq _ _ _ ta ff _ (by rw [← hv, kd, if_neg (by omega)]; first | rw [if_pos (by omega)] | rw [if_neg (by omega)]))
        · refine x_iconst (pc := 119) dX5_kindOf_119 ?_
          refine x_goto (pc := 120) (tgt := 124) dX5_kindOf_120 (by decide) ?_
          refine x_iret (pc := 124) dX5_kindOf_124 rfl (hq _ _ _ ta ff _ (by rw [← hv, kd, if_neg (by omega)]; first | rw [if_pos (by omega)] | rw [if_neg (by omega)]))
      · refine x_iconst (pc := 108) dX5_kindOf_108 ?_
        refine x_iret (pc := 109) dX5_kindOf_109 rfl (hq _ _ _ ta ff _ (by rw [← hv, kd, if_pos (by omega)]))
    · exact absurd c24 (by omega)
  | succ k ih =>
    intro hk l2 hp ab be w ta ff bn hv
    have hpk := (hpn (k + 1) (by omega) hk).2
    obtain ⟨P1, P2, P3, P4, P5, P6, P7, P8, P9⟩ := id ta
    have hob := ta.ob
    refine x_iload_n (pc := 23) dX5_kindOf_23 rfl ?_
    refine x_if_le (pc := 24) (tgt := 99) dX5_kindOf_24 (by decide) (by omega) (fun c24 => ?_) (fun c24 => ?_)
    · exact absurd c24 (by omega)
    · refine x_aload_n (pc := 27) dX5_kindOf_27 rfl ?_
      refine x_gf (pc := 28) dX5_kindOf_28 fX5_18 (by assumption) (by omega) ?_
      refine x_iload_n (pc := 31) dX5_kindOf_31 rfl ?_
      refine x_il (pc := 32) dX5_kindOf_32 (by assumption) (by omega) rfl (by omega) ?_
      refine x_if_gt (pc := 33) (tgt := 38) dX5_kindOf_33 (by decide) (by have := (bn.at (Nat.le_refl _)).1; omega) (fun c33 => ?_) (fun c33 => ?_)
      · refine x_aload_n (pc := 38) dX5_kindOf_38 rfl ?_
        refine x_gf (pc := 39) dX5_kindOf_39 fX5_9 (by assumption) (by omega) ?_
        refine x_iload_n (pc := 42) dX5_kindOf_42 rfl ?_
        refine x_il (pc := 43) dX5_kindOf_43 (by assumption) (by omega) rfl (by omega) ?_
        rw [(hpn (k + 1) (by omega) hk).1]
        refine x_istore_n (pc := 44) dX5_kindOf_44 (by decide) rfl ?_
        show Ex _ _ _ _ _ _ [_, _, _] _ _ _ _
        refine x_aload_n (pc := 45) dX5_kindOf_45 rfl ?_
        refine x_gf (pc := 46) dX5_kindOf_46 fX5_18 (by assumption) (by omega) ?_
        refine x_iload_n (pc := 49) dX5_kindOf_49 rfl ?_
        refine x_aload_n (pc := 50) dX5_kindOf_50 rfl ?_
        refine x_gf (pc := 51) dX5_kindOf_51 fX5_18 (by assumption) (by omega) ?_
        refine x_iload_n (pc := 54) dX5_kindOf_54 rfl ?_
        refine x_il (pc := 55) dX5_kindOf_55 (by assumption) (by omega) rfl (by omega) ?_
        refine x_aload_n (pc := 56) dX5_kindOf_56 rfl ?_
        refine x_gf (pc := 57) dX5_kindOf_57 fX5_18 (by assumption) (by omega) ?_
        refine x_iload_n (pc := 60) dX5_kindOf_60 rfl ?_
        refine x_il (pc := 61) dX5_kindOf_61 (by assumption) (by omega) rfl (by omega) ?_
        refine x_imul (pc := 62) dX5_kindOf_62 ?_
        refine x_aload_n (pc := 63) dX5_kindOf_63 rfl ?_
        refine x_gf (pc := 64) dX5_kindOf_64 fX5_21 (by assumption) (by omega) ?_
        refine x_iload_n (pc := 67) dX5_kindOf_67 rfl ?_
        refine x_il (pc := 68) dX5_kindOf_68 (by assumption) (by omega) rfl (by omega) ?_
        refine x_aload_n (pc := 69) dX5_kindOf_69 rfl ?_
        refine x_gf (pc := 70) dX5_kindOf_70 fX5_21 (by assumption) (by omega) ?_
        refine x_iload_n (pc := 73) dX5_kindOf_73 rfl ?_
        refine x_il (pc := 74) dX5_kindOf_74 (by assumption) (by omega) rfl (by omega) ?_
        refine x_imul (pc := 75) dX5_kindOf_75 ?_
        refine x_isub (pc := 76) dX5_kindOf_76 ?_
        refine x_is (pc := 77) dX5_kindOf_77 (by assumption) (by omega) rfl (by omega) ?_
        rw [uaT_up]
        have ta2 := ta.uab (q := uaT pn (k + 1) ab be)
        obtain ⟨P1, P2, P3, P4, P5, P6, P7, P8, P9⟩ := id ta2
        refine x_aload_n (pc := 78) dX5_kindOf_78 rfl ?_
        refine x_gf (pc := 79) dX5_kindOf_79 fX5_21 (by assumption) (by omega) ?_
        refine x_iload_n (pc := 82) dX5_kindOf_82 rfl ?_
        refine x_dup2 (pc := 83) dX5_kindOf_83 ?_
        refine x_il (pc := 84) dX5_kindOf_84 (by assumption) (by omega) rfl (by omega) ?_
        refine x_aload_n (pc := 85) dX5_kindOf_85 rfl ?_
        refine x_gf (pc := 86) dX5_kindOf_86 fX5_18 (by assumption) (by omega) ?_
        refine x_iload_n (pc := 89) dX5_kindOf_89 rfl ?_
        refine x_il (pc := 90) dX5_kindOf_90 (by assumption) (by omega) rfl (by omega) ?_
        rw [show uaT pn (k + 1) ab be (k + 1) = ab (k + 1) from if_neg (by omega)]
        refine x_imul (pc := 91) dX5_kindOf_91 ?_
        refine x_is (pc := 92) dX5_kindOf_92 (by assumption) (by omega) rfl (by omega) ?_
        rw [ubT_up]
        have ta3 := ta2.ube (q := ubT pn (k + 1) ab be)
        refine x_iinc (pc := 93) dX5_kindOf_93 rfl (by decide) rfl ?_
        show Ex _ _ _ _ _ _ [_, _, _] _ _ _ _
        rw [show ((k + 1 : Nat) : Int) + -1 = (k : Nat) from by omega]
        refine x_goto (pc := 96) (tgt := 23) dX5_kindOf_96 (by decide) ?_
        exact ih (by omega) _ _ _ _ _ ta3 ((ff.up (by omega) (by omega)).up (by omega) (by omega)) (bn.st hpk) (by rw [← hv, kd, if_neg (by omega)])
      · refine x_iconst (pc := 36) dX5_kindOf_36 ?_
        refine x_iret (pc := 37) dX5_kindOf_37 rfl (hq _ _ _ ta ff _ (by rw [← hv, kd, if_pos (by omega)]))

theorem BnT.init {n : Nat} (hn : 1 ≤ n ∧ n ≤ 9) {a b : Nat → Int} (ha : ∀ i, i < 9 → a i = 2) (hb : ∀ i, i < 9 → b i = 1) : BnT (fun _ => 1) (n - 1) a b := by
  refine ⟨?_, fun i hi => ?_⟩
  · have : ∀ k, sw (fun _ => 1) k = k := fun k => by
      induction k with
      | zero => rfl
      | succ k ih => rw [sw, ih]
    rw [this]; omega
  · rw [ha i (by omega), hb i (by omega)]; exact ⟨Nat.le_refl _, by show (2 : Int).natAbs ≤ 2 ^ (2 * 1 - 1); decide, by show (1 : Int).natAbs ≤ 2 ^ (2 * 1 - 1); decide⟩
/-- twice the squares, and nothing taken off -/
def kdT (pn : Nat → Nat) (n : Nat) : Int := kd pn (n - 1) (fun _ => 2) (fun _ => 1)

set_option maxRecDepth 4000 in
theorem t_kindOf {G : GL} {d : Nat} {hp : HP} {sz : Nat} (hz : 92 ≤ sz) {n : Nat} (hn : 1 ≤ n ∧ n ≤ 9) {pa li : Nat → Int} {pn : Nat → Nat} (hpn : ∀ j, 1 ≤ j → j < n → pa j = (pn j : Int) ∧ pn j < j) {ab be : Nat → Int} (ta : TrA hp pa li ab be n) : Ct G (d + 1) 0 0 mX5_kindOf [vr 87] hp sz (Vs (fun v h => v = vi (kdT pn n) ∧ Fr hp h 90 91 ∧ ∃ ab1 be1, TrA h pa li ab1 be1 n) sz) := by
  show Ex _ _ _ _ _ _ [vr 87, vu, vu] _ _ _ _
  obtain ⟨P1, P2, P3, P4, P5, P6, P7, P8, P9⟩ := id ta
  have hob := ta.ob
  refine x_aload_n (pc := 0) dX5_kindOf_0 rfl ?_
  refine x_gf (pc := 1) dX5_kindOf_1 fX5_18 (by assumption) (by omega) ?_
  refine x_iconst (pc := 4) dX5_kindOf_4 ?_
  refine x_q2 (pc := 5) dX5_kindOf_5 wJ7_fill_53178 sJ7_fill_53178 kX5_28 (by decide) rfl (Nat.le_of_ble_eq_true rfl) (t_fill P8 (by omega) (by omega)) (fun h5 e5 => ?_)
  subst e5
  have ta1 := ta.uab (q := fun j => if j < 9 then (2 : Int) else ab j)
  obtain ⟨P1, P2, P3, P4, P5, P6, P7, P8, P9⟩ := id ta1
  refine x_aload_n (pc := 8) dX5_kindOf_8 rfl ?_
  refine x_gf (pc := 9) dX5_kindOf_9 fX5_21 (by assumption) (by omega) ?_
  refine x_iconst (pc := 12) dX5_kindOf_12 ?_
  refine x_q2 (pc := 13) dX5_kindOf_13 wJ7_fill_53178 sJ7_fill_53178 kX5_28 (by decide) rfl (Nat.le_of_ble_eq_true rfl) (t_fill P9 (by omega) (by omega)) (fun h13 e13 => ?_)
  subst e13
  have ta2 := ta1.ube (q := fun j => if j < 9 then (1 : Int) else be j)
  obtain ⟨P1, P2, P3, P4, P5, P6, P7, P8, P9⟩ := id ta2
  refine x_aload_n (pc := 16) dX5_kindOf_16 rfl ?_
  refine x_gf (pc := 17) dX5_kindOf_17 fX5_24 (by assumption) (by omega) ?_
  refine x_iconst (pc := 20) dX5_kindOf_20 ?_
  refine x_isub (pc := 21) dX5_kindOf_21 ?_
  rw [show ((n : Nat) : Int) - 1 = ((n - 1 : Nat) : Int) from by omega]
  refine x_istore_n (pc := 22) dX5_kindOf_22 (by decide) rfl ?_
  show Ex _ _ _ _ _ _ [_, _, _] _ _ _ _
  exact k_kindOf (v0 := kdT pn n) (hp0 := hp) hz hn hpn (fun h a b g1 g2 v gv => ⟨_, rfl, rfl, by rw [gv], g2, _, _, g1⟩) (n - 1) (by omega) _ _ _ _ (fun _ => 1) ta2 ((Fr.rf.up (by omega) (by omega)).up (by omega) (by omega)) (BnT.init hn (fun i hi => if_pos hi) (fun i hi => if_pos hi)) (kd_cg pn (n - 1) (fun i h1 h2 => (hpn i (by omega) (by omega)).2) _ _ _ _ (fun i hi => ⟨if_pos (by omega), if_pos (by omega)⟩))

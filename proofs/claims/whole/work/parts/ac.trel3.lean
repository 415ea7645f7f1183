theorem FfP.rg {b : Bool} {p N t x u nn w : Nat} (hp : 2 ≤ p) {val : Nat → Nat → Int} {E0 E : Nat → Int} (h : FfP b N t x u nn w 0 val E0 E) (hv : ∀ c ix, 0 ≤ val c ix ∧ val c ix < p) (h0 : ∀ y, y < 128 → 0 ≤ E0 y ∧ E0 y < p) : ∀ y, y < 128 → 0 ≤ E y ∧ E y < p := fun y hy => by
  by_cases a : t + 1 < N ∧ y / 16 = t
  · obtain ⟨pl, ix, p1, p2, p3⟩ := pos_sur (b := b) a.2
    rw [← p3, h.2.1 a.1 pl ix p1 p2]
    split
    · exact hv _ _
    · omega
  · by_cases c : 0 < t ∧ y / 16 = t - 1
    · obtain ⟨pl, ix, p1, p2, p3⟩ := pos_sur (b := b) c.2
      rw [← p3, h.1 c.1 pl ix p1 p2]
      split
      · exact hv _ _
      · omega
    · rw [h.2.2 y (fun q => by rcases q with q | q; exact c q; exact a q)]
      exact h0 y hy
/-! nothing outside the sizes -/
def ZL (N : Nat) (s n : Nat → Int) (w : Nat) : Prop := (∀ j, N ≤ j → j < 8 → s j = 0) ∧ ∀ x, x < 112 → ¬ (x / 16 + 1 < N ∧ ((x % 16 / 4 : Nat) : Int) < s (ta (Lw w) (x / 16)) ∧ ((x % 4 : Nat) : Int) < s (so (Lw w) (x / 16))) → n x = 0
def ZC (N : Nat) (S T : Nat → Nat → Int) (W : Nat → Nat) : Prop := ∀ l, l < 8 → ZL N (S l) (T l) (W l)
theorem ZC.up {N : Nat} {S T : Nat → Nat → Int} {W : Nat → Nat} (h : ZC N S T W) {z : Nat} {s n : Nat → Int} {w : Nat} (q : ZL N s n w) : ZC N (up S z s) (up T z n) (up W z w) := fun l hl => by
  by_cases e : l = z
  · rw [e, up_s, up_s, up_s]; exact q
  · rw [up_n _ _ e, up_n _ _ e, up_n _ _ e]; exact h l hl
theorem turn_Z {N : Nat} (hN : N ≤ 8) {s n s3 n1 n2 n3 : Nat → Int} {w w3 t nn : Nat} (ht : t < N) (hZ : ZL N s n w) (hTn : Tn N w t) {b : Bool} (hb : b = decide (ta (Lw w) (if 0 < t then t - 1 else t) = t))
    (h3 : ∀ j, j < 8 → s3 j = if j = t then (nn : Int) else s j) (hw : w3 = (w ^^^ (if 0 < t then 2 ^ (t - 1) else 0)) ^^^ (if t + 1 < N then 2 ^ t else 0)) {sz : Nat → Nat} (hsz : ∀ k, sz k = if k < 8 then (s k).toNat else 0) {v1 v2 : Nat → Nat → Int}
    (g1 : if 0 < t then Tt b (t - 1) (lx sz t) nn 0 v1 n n1 else n1 = n) (g2 : if t + 1 < N then Tt b t (ry N sz t) nn 0 v2 n1 n2 else n2 = n1) (g3 : ∀ i, i < 112 → n3 i = n2 i) : ZL N s3 n3 w3 := by
  have b1 : 0 < t → Lw w3 (t - 1) = !Lw w (t - 1) := fun h => by
    unfold Lw
    rw [hw, if_pos h, Nat.testBit_xor, Nat.testBit_xor, Nat.testBit_two_pow_self]
    have : (if t + 1 < N then 2 ^ t else 0 : Nat).testBit (t - 1) = false := by
      split
      · exact Nat.testBit_two_pow_of_ne (by omega)
      · exact Nat.zero_testBit _
    rw [this, Bool.xor_false, Bool.xor_true]
  have b2 : t + 1 < N → Lw w3 t = !Lw w t := fun h => by
    unfold Lw
    rw [hw, if_pos h, Nat.testBit_xor, Nat.testBit_xor, Nat.testBit_two_pow_self]
    have : (if 0 < t then 2 ^ (t - 1) else 0 : Nat).testBit t = false := by
      split
      · exact Nat.testBit_two_pow_of_ne (by omega)
      · exact Nat.zero_testBit _
    rw [this, Bool.xor_false, Bool.xor_true]
  have b3 : ∀ k, (0 < t → k ≠ t - 1) → (t + 1 < N → k ≠ t) → Lw w3 k = Lw w k := fun k q1 q2 => by
    unfold Lw
    rw [hw, Nat.testBit_xor, Nat.testBit_xor]
    have a : (if t + 1 < N then 2 ^ t else 0 : Nat).testBit k = false := by
      split
      · rename_i q; exact Nat.testBit_two_pow_of_ne (Ne.symm (q2 q))
      · exact Nat.zero_testBit _
    have c : (if 0 < t then 2 ^ (t - 1) else 0 : Nat).testBit k = false := by
      split
      · rename_i q; exact Nat.testBit_two_pow_of_ne (Ne.symm (q1 q))
      · exact Nat.zero_testBit _
    rw [a, c, Bool.xor_false, Bool.xor_false]
  have c1 : 0 < t → b = !Lw w (t - 1) := fun h => by
    rw [hb, if_pos h]
    unfold ta
    cases Lw w (t - 1)
    · simp; omega
    · simp; omega
  have c2 : t + 1 < N → b = Lw w t := fun h => by
    by_cases z : 0 < t
    · rw [c1 z]
      rcases hTn.2 with q | q | q
      · omega
      · omega
      · unfold Lw
        cases e1 : w.testBit (t - 1) <;> cases e2 : w.testBit t <;> simp_all
    · rw [hb, if_neg z]
      have : t = 0 := by omega
      subst this
      unfold ta
      cases Lw w 0 <;> simp
  refine ⟨fun j h1 h2 => ?_, fun x hx hno => ?_⟩
  · rw [h3 j h2, if_neg (by omega)]; exact hZ.1 j h1 h2
  · rw [g3 x hx]
    by_cases e1 : x / 16 = t ∧ t + 1 < N
    · rw [if_pos e1.2] at g2
      obtain ⟨pl, ix, p1, p2, e⟩ := pos_sur (b := b) e1.1
      have q := g2.1 pl ix p1 p2
      rw [e] at q
      rw [q, if_neg]
      intro r
      refine hno ?_
      rw [e1.1]
      refine ⟨e1.2, ?_⟩
      have hr := r.1
      unfold ry at hr
      rw [if_pos e1.2, hsz, if_pos (by omega)] at hr
      have l1 := b2 e1.2
      rw [← c2 e1.2] at l1
      unfold ta so
      unfold pos at e
      cases b with
      | true =>
        rw [if_pos rfl] at e
        rw [l1]
        simp only [Bool.not_true, Bool.false_eq_true, if_false]
        rw [show s3 (t + 1) = s (t + 1) from (h3 (t + 1) (by omega)).trans (if_neg (by omega)), show s3 t = (nn : Int) from (h3 t (by omega)).trans (if_pos rfl)]
        omega
      | false =>
        rw [if_neg (by decide)] at e
        rw [l1]
        simp only [Bool.not_false, if_true]
        rw [show s3 (t + 1) = s (t + 1) from (h3 (t + 1) (by omega)).trans (if_neg (by omega)), show s3 t = (nn : Int) from (h3 t (by omega)).trans (if_pos rfl)]
        omega
    · have e2 : n2 x = n1 x := by
        by_cases z : t + 1 < N
        · rw [if_pos z] at g2; exact g2.2 x (by omega)
        · rw [if_neg z] at g2; rw [g2]
      rw [e2]
      by_cases e3 : 0 < t ∧ x / 16 = t - 1
      · rw [if_pos e3.1] at g1
        obtain ⟨pl, ix, p1, p2, e⟩ := pos_sur (b := b) e3.2
        have q := g1.1 pl ix p1 p2
        rw [e] at q
        rw [q, if_neg]
        intro r
        refine hno ?_
        rw [e3.2]
        refine ⟨by omega, ?_⟩
        have hr := r.1
        unfold lx at hr
        rw [if_pos e3.1, hsz, if_pos (by omega)] at hr
        have l1 := b1 e3.1
        rw [← c1 e3.1] at l1
        unfold ta so
        unfold pos at e
        cases b with
        | true =>
          rw [if_pos rfl] at e
          rw [l1]
          simp only [if_true]
          rw [show t - 1 + 1 = t by omega, show s3 (t - 1) = s (t - 1) from (h3 (t - 1) (by omega)).trans (if_neg (by omega)), show s3 t = (nn : Int) from (h3 t (by omega)).trans (if_pos rfl)]
          omega
        | false =>
          rw [if_neg (by decide)] at e
          rw [l1]
          simp only [Bool.false_eq_true, if_false]
          rw [show t - 1 + 1 = t by omega, show s3 (t - 1) = s (t - 1) from (h3 (t - 1) (by omega)).trans (if_neg (by omega)), show s3 t = (nn : Int) from (h3 t (by omega)).trans (if_pos rfl)]
          omega
      · have e4 : n1 x = n x := by
          by_cases z : 0 < t
          · rw [if_pos z] at g1; exact g1.2 x (by omega)
          · rw [if_neg z] at g1; rw [g1]
        rw [e4]
        refine hZ.2 x hx (fun r => hno ⟨r.1, ?_⟩)
        have bb := b3 (x / 16) (fun q => by omega) (fun q => by omega)
        unfold ta so at r ⊢
        rw [bb]
        have u1 : x / 16 ≠ t := by omega
        have u2 : x / 16 + 1 ≠ t := by omega
        have w1 := h3 (x / 16) (by omega)
        have w2 := h3 (x / 16 + 1) (by omega)
        rw [if_neg u1] at w1
        rw [if_neg u2] at w2
        revert r
        cases Lw w (x / 16)
        · simp only [Bool.false_eq_true, if_false, w1, w2]
          omega
        · simp only [if_true, w1, w2]
          omega
theorem turn_rel {K : Type} [Lean.Grind.CommRing K] {f : Int → K} {p N : Nat} (hf : Iot p f) (hP : isP p) (hN : 1 ≤ N ∧ N ≤ 8) {S T : Nat → Nat → Int} {Sm Tm : Nat → Int} {W : Nat → Nat} (hR : RelL S T Sm Tm) (hS : inSm Sm) (hT : inTm Tm p) {l t z : Nat} (hl : l < 8) (ht : t < N) (hz : z < 8) {b : Bool} {hp h h' : HP} {v v' : AV} (h1 : TuR p N l t z S T W b hp h v) (h2 : TuM f p N l t z Sm Tm W b h' v') (hZ : ZC N S T W) (hTn : Tn N (W l) t) (hb : b = decide (ta (Lw (W l)) (if 0 < t then t - 1 else t) = t)) : v = v' ∧ ∃ S1 T1 W1 Sm1 Tm1, LysA h S1 T1 W1 ∧ TX h' p N W1 Sm1 Tm1 ∧ RelL S1 T1 Sm1 Tm1 ∧ inSm Sm1 ∧ inTm Tm1 p ∧ ZC N S1 T1 W1 := by
  have hp2 := hP.le.1
  obtain ⟨M1, hd1, k1, Kf, a1, a2, a3, a4, a5, a6⟩ := h1
  obtain ⟨M2, ld2, k2, Kg, b1, b2, b3, b4, b5, b6, b7, b8⟩ := h2
  rw [hR.sz hl] at a1 a4 a5 a6
  have hlx : lx (szs Sm l) t ≤ 4 := by unfold lx; split; exact szs_4 hS hl _; omega
  have hry : ry N (szs Sm l) t ≤ 4 := by unfold ry; split; exact szs_4 hS hl _; omega
  have hx0 : 0 < lx (szs Sm l) t → 0 < t := fun q => by unfold lx at q; split at q <;> omega
  have hu0 : 0 < ry N (szs Sm l) t → t + 1 < N := fun q => by unfold ry at q; split at q <;> omega
  have hm4 := szs_4 hS hl t
  obtain ⟨e1, e2⟩ := turn_link hf hp2 (by omega) a3 a1 a2 a4 b3 b4 b6 (gat_rel (fun x hx => hR.2 l x hl hx) hN.2 ht hlx hry hm4 hx0 hu0)
  have hfr := a1.free
  have enf := nf_cg _ e1
  have eK : ∀ i, i < nf (hdm ld2 k2) (lx (szs Sm l) t + ry N (szs Sm l) t) → Kf i = Kg i := fun i hi => by
    obtain ⟨c1, c2, c3⟩ := a5 i (by omega)
    obtain ⟨d1, d2, d3⟩ := b7 i hi
    refine nf_inj c2 ((e1 _ d1).mpr d2) ?_
    rw [c3, nf_cg (hd' := hdm ld2 k2) _ (fun j hj => e1 j (by omega)), d3]
  rcases a6 with ⟨c1, c2, c3⟩ | ⟨c1, c2, s3, n1, n2, n3, w3, c3, c4, c5, c6, c7, c8⟩
  · rcases b8 with ⟨d1, d2, d3⟩ | ⟨d1, d2, -⟩
    · exact ⟨c2.trans d2.symm, S, T, W, Sm, Tm, c3, d3, hR, hS, hT, hZ⟩
    · omega
  · rcases b8 with ⟨d1, d2, d3⟩ | ⟨d1, d2, S1, T1, E0, E, d3, d4, d5, d6, d7, d8, d9⟩
    · omega
    · have hww : lx (szs Sm l) t + ry N (szs Sm l) t - k1 = nf (hdm ld2 k2) (lx (szs Sm l) t + ry N (szs Sm l) t) := by omega
      rw [hww] at c2 c4 c6 c7
      have hn := tabs_rel hN.2 ht rfl (val := fun c ix => rst p M1 hd1 c (Kf ix)) (val' := fun c ix => vvS p M2 ld2 c (Kg ix) (if c = Kg ix then 1 else 0) k2) (fun c ix hc hix => by
        show rst p M1 hd1 c (Kf ix) = vvS p M2 ld2 c (Kg ix) (if c = Kg ix then 1 else 0) k2
        rw [← eK ix hix]
        obtain ⟨g1, g2, g3⟩ := a5 ix (by omega)
        exact e2 (Kf ix) c g1 hc g2) c6 c7 d7 (fun y hy => (hR.2 l y hl hy).trans (d6 y (by omega)).symm)
      refine ⟨c2.trans d2.symm, up S z s3, up T z n3, up W z w3, S1, T1, c3, c5 ▸ d3, hR.up (fun j hj => ?_) d5 (fun y hy => ?_) d9, fun y hy => ?_, fun y hy => ?_, hZ.up (turn_Z hN.2 ht (hZ l hl) hTn hb c4 c5 (sz := szs Sm l) (fun k => by rw [← hR.sz hl]; rfl) c6 c7 c8)⟩
      · rw [c4 j hj, d4 j hj]
        by_cases q : j = t
        · rw [if_pos q, if_pos q]
        · rw [if_neg q, if_neg q]; exact hR.1 l j hl hj
      · rw [c8 y hy, hn y hy, d8 y (by omega)]
      · by_cases q : 8 * z ≤ y ∧ y < 8 * z + 8
        · have e : y = 8 * z + (y - 8 * z) := by omega
          rw [e, d4 _ (by omega)]
          by_cases q2 : y - 8 * z = t
          · rw [if_pos q2]; omega
          · rw [if_neg q2]; exact hS _ (by omega)
        · rw [d5 y (by omega)]; exact hS y hy
      · by_cases q : 128 * z ≤ y ∧ y < 128 * z + 128
        · have e : y = 128 * z + (y - 128 * z) := by omega
          rw [e, d8 _ (by omega)]
          exact d7.rg hp2 (fun c ix => vvS_rg (by split <;> omega) _) (fun i hi => by rw [d6 i hi]; exact hT _ (by omega)) _ (by omega)
        · rw [d9 y (by omega)]; exact hT y hy

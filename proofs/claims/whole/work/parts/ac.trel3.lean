theorem FfP.rg {b : Bool} {p N t x u nn w : Nat} (hp : 2 ≤ p) {val : Nat → Nat → Int} {E0 E : Nat → Int} (h : FfP b N t x u nn w 0 val E0 E) (hv : ∀ c ix, 0 ≤ val c ix ∧ val c ix < p) (h0 : ∀ y, y < 128 → 0 ≤ E0 y ∧ E0 y < p) : ∀ y, y < 128 → 0 ≤ E y ∧ E y < p := fun y hy => by
  by_cases a : t + 1 < N ∧ y / 16 = t
  · obtain ⟨pl, ix, p1, p2, p3⟩ := pos_sur (b := b) a.2
    rw [← p3, h.2.1 a.1 pl ix p1 p2]
    split
    · exact hv _ _
    · omega
  · by_cases c : 0 < t ∧ y / 16 = t - 1
    · obtain ⟨pl, ix, p1, p2, p3⟩ := pos_sur (b := b) c.2
      rw [← p3, h.1 c.1 pl ix p1 p2]
      split
      · exact hv _ _
      · omega
    · rw [h.2.2 y (fun q => by rcases q with q | q; exact c q; exact a q)]
      exact h0 y hy
theorem turn_rel {K : Type} [Lean.Grind.CommRing K] {f : Int → K} {p N : Nat} (hf : Iot p f) (hP : isP p) (hN : 1 ≤ N ∧ N ≤ 8) {S T : Nat → Nat → Int} {Sm Tm : Nat → Int} {W : Nat → Nat} (hR : RelL S T Sm Tm) (hS : inSm Sm) (hT : inTm Tm p) {l t z : Nat} (hl : l < 8) (ht : t < N) (hz : z < 8) {b : Bool} {hp h h' : HP} {v v' : AV} (h1 : TuR p N l t z S T W b hp h v) (h2 : TuM f p N l t z Sm Tm W b h' v') : v = v' ∧ ∃ S1 T1 W1 Sm1 Tm1, LysA h S1 T1 W1 ∧ TX h' p N W1 Sm1 Tm1 ∧ RelL S1 T1 Sm1 Tm1 ∧ inSm Sm1 ∧ inTm Tm1 p := by
  have hp2 := hP.le.1
  obtain ⟨M1, hd1, k1, Kf, a1, a2, a3, a4, a5, a6⟩ := h1
  obtain ⟨M2, ld2, k2, Kg, b1, b2, b3, b4, b5, b6, b7, b8⟩ := h2
  rw [hR.sz hl] at a1 a4 a5 a6
  have hlx : lx (szs Sm l) t ≤ 4 := by unfold lx; split; exact szs_4 hS hl _; omega
  have hry : ry N (szs Sm l) t ≤ 4 := by unfold ry; split; exact szs_4 hS hl _; omega
  have hx0 : 0 < lx (szs Sm l) t → 0 < t := fun q => by unfold lx at q; split at q <;> omega
  have hu0 : 0 < ry N (szs Sm l) t → t + 1 < N := fun q => by unfold ry at q; split at q <;> omega
  have hm4 := szs_4 hS hl t
  obtain ⟨e1, e2⟩ := turn_link hf hp2 (by omega) a3 a1 a2 a4 b3 b4 b6 (gat_rel (fun x hx => hR.2 l x hl hx) hN.2 ht hlx hry hm4 hx0 hu0)
  have hfr := a1.free
  have enf := nf_cg _ e1
  have eK : ∀ i, i < nf (hdm ld2 k2) (lx (szs Sm l) t + ry N (szs Sm l) t) → Kf i = Kg i := fun i hi => by
    obtain ⟨c1, c2, c3⟩ := a5 i (by omega)
    obtain ⟨d1, d2, d3⟩ := b7 i hi
    refine nf_inj c2 ((e1 _ d1).mpr d2) ?_
    rw [c3, nf_cg (hd' := hdm ld2 k2) _ (fun j hj => e1 j (by omega)), d3]
  rcases a6 with ⟨c1, c2, c3⟩ | ⟨c1, c2, s3, n1, n2, n3, w3, c3, c4, c5, c6, c7, c8⟩
  · rcases b8 with ⟨d1, d2, d3⟩ | ⟨d1, d2, -⟩
    · exact ⟨c2.trans d2.symm, S, T, W, Sm, Tm, c3, d3, hR, hS, hT⟩
    · omega
  · rcases b8 with ⟨d1, d2, d3⟩ | ⟨d1, d2, S1, T1, E0, E, d3, d4, d5, d6, d7, d8, d9⟩
    · omega
    · have hww : lx (szs Sm l) t + ry N (szs Sm l) t - k1 = nf (hdm ld2 k2) (lx (szs Sm l) t + ry N (szs Sm l) t) := by omega
      rw [hww] at c2 c4 c6 c7
      have hn := tabs_rel hN.2 ht rfl (val := fun c ix => rst p M1 hd1 c (Kf ix)) (val' := fun c ix => vvS p M2 ld2 c (Kg ix) (if c = Kg ix then 1 else 0) k2) (fun c ix hc hix => by
        show rst p M1 hd1 c (Kf ix) = vvS p M2 ld2 c (Kg ix) (if c = Kg ix then 1 else 0) k2
        rw [← eK ix hix]
        obtain ⟨g1, g2, g3⟩ := a5 ix (by omega)
        exact e2 (Kf ix) c g1 hc g2) c6 c7 d7 (fun y hy => (hR.2 l y hl hy).trans (d6 y (by omega)).symm)
      refine ⟨c2.trans d2.symm, up S z s3, up T z n3, up W z w3, S1, T1, c3, c5 ▸ d3, hR.up (fun j hj => ?_) d5 (fun y hy => ?_) d9, fun y hy => ?_, fun y hy => ?_⟩
      · rw [c4 j hj, d4 j hj]
        by_cases q : j = t
        · rw [if_pos q, if_pos q]
        · rw [if_neg q, if_neg q]; exact hR.1 l j hl hj
      · rw [c8 y hy, hn y hy, d8 y (by omega)]
      · by_cases q : 8 * z ≤ y ∧ y < 8 * z + 8
        · have e : y = 8 * z + (y - 8 * z) := by omega
          rw [e, d4 _ (by omega)]
          by_cases q2 : y - 8 * z = t
          · rw [if_pos q2]; omega
          · rw [if_neg q2]; exact hS _ (by omega)
        · rw [d5 y (by omega)]; exact hS y hy
      · by_cases q : 128 * z ≤ y ∧ y < 128 * z + 128
        · have e : y = 128 * z + (y - 128 * z) := by omega
          rw [e, d8 _ (by omega)]
          exact d7.rg hp2 (fun c ix => vvS_rg (by split <;> omega) _) (fun i hi => by rw [d6 i hi]; exact hT _ (by omega)) _ (by omega)
        · rw [d9 y (by omega)]; exact hT y hy

theorem nb_rel {T : Nat → Nat → Int} {Tm : Nat → Int} {l : Nat} (h : ∀ x, x < 112 → T l x = Tm (128 * l + x)) {b : Bool} {k r c : Nat} (hk : k < 7) (hr : r < 4) (hc : c < 4) : nb b (T l) k r c = nb b (nlT Tm l) k r c := by
  unfold nb nlT
  split
  · rw [h _ (by omega), Nat.mul_comm 128 l]
  · rw [h _ (by omega), Nat.mul_comm 128 l]
theorem gat_rel {T : Nat → Nat → Int} {Tm : Nat → Int} {l : Nat} (h : ∀ x, x < 112 → T l x = Tm (128 * l + x)) {b : Bool} {N t x u m : Nat} (hN : N ≤ 8) (ht : t < N) (hx : x ≤ 4) (hu : u ≤ 4) (hm : m ≤ 4) (hx0 : 0 < x → 0 < t) (hu0 : 0 < u → t + 1 < N) : ∀ i j, i < m → j < x + u → gat b (T l) t x i j = gat b (nlT Tm l) t x i j := fun i j hi hj => by
  unfold gat
  by_cases e : j < x
  · rw [if_pos e, if_pos e]; exact nb_rel h (by omega) (by omega) (by omega)
  · rw [if_neg e, if_neg e]; exact nb_rel h (by omega) (by omega) (by omega)
/-- the two turned tables are the same -/
theorem tabs_rel {b : Bool} {N t x u nn w : Nat} (hN : N ≤ 8) (ht : t < N) (hw : w = x + u) {val val' : Nat → Nat → Int} (hv : ∀ c ix, c < w → ix < nn → val c ix = val' c ix) {n0 n1 n2 E0 E : Nat → Int} (h1 : if 0 < t then Tt b (t - 1) x nn 0 (fun pl ix => val (0 + pl) ix) n0 n1 else n1 = n0) (h2 : if t + 1 < N then Tt b t u nn 0 (fun pl ix => val (x + pl) ix) n1 n2 else n2 = n1) (hE : FfP b N t x u nn w 0 val' E0 E) (h0 : ∀ y, y < 112 → n0 y = E0 y) : ∀ y, y < 112 → n2 y = E y := by
  intro y hy
  have s1 : ¬ (t + 1 < N ∧ y / 16 = t) → n2 y = n1 y := fun q => by
    by_cases e : t + 1 < N
    · rw [if_pos e] at h2
      exact h2.2 y (by omega)
    · rw [if_neg e] at h2
      rw [h2]
  have s2 : ¬ (0 < t ∧ y / 16 = t - 1) → n1 y = n0 y := fun q => by
    by_cases e : 0 < t
    · rw [if_pos e] at h1
      exact h1.2 y (by omega)
    · rw [if_neg e] at h1
      rw [h1]
  by_cases a : t + 1 < N ∧ y / 16 = t
  · rw [if_pos a.1] at h2
    obtain ⟨pl, ix, p1, p2, p3⟩ := pos_sur (b := b) a.2
    rw [← p3, h2.1 pl ix p1 p2, hE.2.1 a.1 pl ix p1 p2]
    by_cases q : pl < u ∧ ix < nn
    · rw [if_pos (by omega), if_pos (by omega)]
      exact hv _ _ (by omega) q.2
    · rw [if_neg (by omega), if_neg (by omega)]
  · rw [s1 a]
    by_cases c : 0 < t ∧ y / 16 = t - 1
    · rw [if_pos c.1] at h1
      obtain ⟨pl, ix, p1, p2, p3⟩ := pos_sur (b := b) c.2
      rw [← p3, h1.1 pl ix p1 p2, hE.1 c.1 pl ix p1 p2]
      by_cases q : pl < x ∧ ix < nn
      · rw [if_pos (by omega), if_pos (by omega)]
        show val (0 + pl) ix = _
        rw [Nat.zero_add]
        exact hv _ _ (by omega) q.2
      · rw [if_neg (by omega), if_neg (by omega)]
    · rw [s2 c, hE.2.2 y (fun q => by rcases q with q | q; exact c q; exact a q)]
      exact h0 y hy

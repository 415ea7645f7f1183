/-! heads and free places of least rows -/
theorem Rf.inj {w k : Nat} {M : Nat → Nat → Int} {hd : Nat → Int} (h : Rf w k M hd) {i j r : Nat} (hi : i < w) (hj : j < w) (ei : hd i = (r : Int)) (ej : hd j = (r : Int)) : i = j := by
  rcases Nat.lt_trichotomy i j with q | q | q
  · have := h.2.2.2.2.2 i j r r q hj ei ej
    omega
  · exact q
  · have := h.2.2.2.2.2 j i r r q hi ej ei
    omega
/-- the rows whose heads lie before j are the first ones -/
theorem Rf.before {w k : Nat} {M : Nat → Nat → Int} {hd : Nat → Int} (h : Rf w k M hd) : ∀ j, j ≤ w → ∀ r : Nat, r < k → ((∃ i, i < j ∧ hd i = (r : Int)) ↔ r < j - nf hd j) := by
  obtain ⟨h1, h2, h3, h4, h5, h6⟩ := h
  intro j
  induction j with
  | zero =>
    intro _ r hr
    constructor
    · rintro ⟨i, hi, -⟩; omega
    · intro q; omega
  | succ j ih =>
    intro hj r hr
    have hle := nf_le hd j
    have ihr := ih (by omega)
    by_cases e : hd j = -1
    · rw [nf_t e, show j + 1 - (nf hd j + 1) = j - nf hd j by omega, ← ihr r hr]
      constructor
      · rintro ⟨i, hi, ei⟩
        refine ⟨i, ?_, ei⟩
        by_cases q : i = j
        · rw [q, e] at ei; omega
        · omega
      · rintro ⟨i, hi, ei⟩
        exact ⟨i, by omega, ei⟩
    · obtain ⟨r0, hr0, e0⟩ : ∃ r : Nat, r < k ∧ hd j = (r : Int) := (h2 j (by omega)).resolve_left e
      have key : r0 = j - nf hd j := by
        have a1 : ¬ r0 < j - nf hd j := fun q => by
          obtain ⟨i, hi, ei⟩ := (ihr r0 hr0).mpr q
          have := h6 i j r0 r0 hi (by omega) ei e0
          omega
        have a2 : ¬ j - nf hd j < r0 := fun q => by
          obtain ⟨i, hi, ei⟩ := h4 (j - nf hd j) (by omega)
          have hij : i < j := by
            rcases Nat.lt_trichotomy i j with z | z | z
            · exact z
            · rw [z, e0] at ei; omega
            · have := h6 j i r0 _ z hi e0 ei
              omega
          have := (ihr (j - nf hd j) (by omega)).mp ⟨i, hij, ei⟩
          omega
        omega
      rw [nf_f e, show j + 1 - nf hd j = (j - nf hd j) + 1 by omega]
      constructor
      · rintro ⟨i, hi, ei⟩
        by_cases q : i = j
        · rw [q, e0] at ei; omega
        · have := (ihr r hr).mp ⟨i, by omega, ei⟩
          omega
      · intro q
        by_cases z : r = r0
        · exact ⟨j, by omega, by rw [z]; exact e0⟩
        · obtain ⟨i, hi, ei⟩ := (ihr r hr).mpr (by omega)
          exact ⟨i, by omega, ei⟩
theorem Rf.rank {w k : Nat} {M : Nat → Nat → Int} {hd : Nat → Int} (h : Rf w k M hd) {j : Nat} (hj : j < w) (e : ¬ hd j = -1) : hd j = ((j - nf hd j : Nat) : Int) := by
  obtain ⟨r0, hr0, e0⟩ := (h.2.1 j hj).resolve_left e
  have a := (h.before (j + 1) (by omega) r0 hr0).mp ⟨j, by omega, e0⟩
  have b : ¬ r0 < j - nf hd j := fun q => by
    obtain ⟨i, hi, ei⟩ := (h.before j (by omega) r0 hr0).mpr q
    have := h.inj (by omega) hj ei e0
    omega
  have hle := nf_le hd j
  rw [nf_f e] at a
  rw [e0]
  omega
theorem Rf.free {w k : Nat} {M : Nat → Nat → Int} {hd : Nat → Int} (h : Rf w k M hd) : nf hd w = w - k := by
  have hle := nf_le hd w
  have h1 : k ≤ w - nf hd w := by
    rcases Nat.lt_or_ge (w - nf hd w) k with q | q
    · obtain ⟨i, hi, ei⟩ := h.2.2.2.1 _ q
      have := (h.before w (Nat.le_refl _) _ q).mp ⟨i, hi, ei⟩
      omega
    · exact q
  have h2 : w - nf hd w ≤ k := by
    rcases Nat.lt_or_ge k (w - nf hd w) with q | q
    · exfalso
      have key : ∀ j, j ≤ w → j - nf hd j ≤ k := by
        intro j
        induction j with
        | zero => intro _; omega
        | succ j ih =>
          intro hj
          have := ih (by omega)
          have hl := nf_le hd j
          by_cases e : hd j = -1
          · rw [nf_t e]; omega
          · have hr := h.rank (show j < w by omega) e
            obtain ⟨r0, hr0, e0⟩ := (h.2.1 j (by omega)).resolve_left e
            rw [nf_f e]
            omega
      have := key w (Nat.le_refl _)
      omega
    · exact q
  omega

/-! sums over heads, and over free places -/
theorem Rf.exH {w k : Nat} {M : Nat → Nat → Int} {hd : Nat → Int} (h : Rf w k M hd) : ∃ H : Nat → Nat, ∀ r, r < k → H r < w ∧ hd (H r) = (r : Int) := by
  refine ⟨fun r => if q : r < k then Classical.choose (h.2.2.2.1 r q) else 0, fun r hr => ?_⟩
  simp only [dif_pos hr]
  exact Classical.choose_spec (h.2.2.2.1 r hr)
theorem Rf.sumH {w k : Nat} {M : Nat → Nat → Int} {hd : Nat → Int} (h : Rf w k M hd) {H : Nat → Nat} (hH : ∀ r, r < k → H r < w ∧ hd (H r) = (r : Int)) (F : Nat → Nat → Int) : ∀ j, j ≤ w → sm j (fun i => if hd i = -1 then 0 else F (hd i).toNat i) = sm (j - nf hd j) (fun r => F r (H r)) := by
  intro j
  induction j with
  | zero => intro _; rfl
  | succ j ih =>
    intro hj
    have hle := nf_le hd j
    rw [sm_s, ih (by omega)]
    by_cases e : hd j = -1
    · rw [if_pos e, nf_t e, show j + 1 - (nf hd j + 1) = j - nf hd j by omega, Int.add_zero]
    · have hr := h.rank (show j < w by omega) e
      obtain ⟨r0, hr0, e0⟩ := (h.2.1 j (by omega)).resolve_left e
      have er : r0 = j - nf hd j := by omega
      rw [if_neg e, nf_f e, show j + 1 - nf hd j = (j - nf hd j) + 1 by omega, sm_s, ← er, e0]
      have hj2 : H r0 = j := h.inj (hH r0 hr0).1 (by omega) (hH r0 hr0).2 e0
      rw [hj2, Int.toNat_natCast]
theorem nf_ex (hd : Nat → Int) : ∀ w t, t < nf hd w → ∃ g, g < w ∧ hd g = -1 ∧ nf hd g = t := by
  intro w
  induction w with
  | zero => intro t ht; exact absurd ht (Nat.not_lt_zero _)
  | succ w ih =>
    intro t ht
    by_cases e : hd w = -1
    · rw [nf_t e] at ht
      by_cases q : t = nf hd w
      · exact ⟨w, by omega, e, q.symm⟩
      · obtain ⟨g, h1, h2, h3⟩ := ih t (by omega)
        exact ⟨g, by omega, h2, h3⟩
    · rw [nf_f e] at ht
      obtain ⟨g, h1, h2, h3⟩ := ih t ht
      exact ⟨g, by omega, h2, h3⟩
theorem nf_inj {hd : Nat → Int} {g g' : Nat} (h : hd g = -1) (h' : hd g' = -1) (e : nf hd g = nf hd g') : g = g' := by
  rcases Nat.lt_trichotomy g g' with q | q | q
  · have := nf_mono hd (show g + 1 ≤ g' by omega)
    rw [nf_t h] at this
    omega
  · exact q
  · have := nf_mono hd (show g' + 1 ≤ g by omega)
    rw [nf_t h'] at this
    omega
theorem nf_exF (hd : Nat → Int) (w : Nat) : ∃ K : Nat → Nat, ∀ t, t < nf hd w → K t < w ∧ hd (K t) = -1 ∧ nf hd (K t) = t := by
  refine ⟨fun t => if q : t < nf hd w then Classical.choose (nf_ex hd w t q) else 0, fun t ht => ?_⟩
  simp only [dif_pos ht]
  exact Classical.choose_spec (nf_ex hd w t ht)
theorem sumK {hd : Nat → Int} {w : Nat} {K : Nat → Nat} (hK : ∀ t, t < nf hd w → K t < w ∧ hd (K t) = -1 ∧ nf hd (K t) = t) (F : Nat → Nat → Int) : ∀ j, j ≤ w → sm j (fun g => if hd g = -1 then F (nf hd g) g else 0) = sm (nf hd j) (fun t => F t (K t)) := by
  intro j
  induction j with
  | zero => intro _; rfl
  | succ j ih =>
    intro hj
    rw [sm_s, ih (by omega)]
    by_cases e : hd j = -1
    · rw [if_pos e, nf_t e, sm_s]
      have hlt : nf hd j < nf hd w := by
        have := nf_mono hd (show j + 1 ≤ w from hj)
        rw [nf_t e] at this
        omega
      have hk := hK (nf hd j) hlt
      rw [nf_inj hk.2.1 e hk.2.2]
    · rw [if_neg e, nf_f e, Int.add_zero]

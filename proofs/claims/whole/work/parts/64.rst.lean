theorem rst_cg {p : Nat} {M : Nat → Nat → Int} {hd : Nat → Int} {i f : Nat} (hf : hd f = -1) : (p : Int) ∣ rst p M hd i f - ((if i = f then 1 else 0) - (if hd i = -1 then 0 else M (hd i).toNat f)) := by
  unfold rst
  by_cases h1 : i = f
  · subst h1
    rw [if_pos rfl, if_pos rfl, if_pos hf]
    exact ⟨0, by omega⟩
  · rw [if_neg h1, if_neg h1]
    by_cases h2 : hd i = -1
    · rw [if_pos h2, if_pos h2]
      exact ⟨0, by omega⟩
    · rw [if_neg h2, if_neg h2]
      by_cases h3 : M (hd i).toNat f = 0
      · rw [if_pos h3, h3]
        exact ⟨0, by omega⟩
      · rw [if_neg h3]
        exact ⟨1, by omega⟩
theorem Rf.rstSum {p w k : Nat} {M : Nat → Nat → Int} {hd : Nat → Int} (h : Rf w k M hd) {H : Nat → Nat} (hH : ∀ r, r < k → H r < w ∧ hd (H r) = (r : Int)) (u : Nat → Int) {f : Nat} (hfw : f < w) (hf : hd f = -1) : (p : Int) ∣ sm w (fun i => rst p M hd i f * u i) - (u f - sm k (fun r => u (H r) * M r f)) := by
  have e1 : sm w (fun i => (if i = f then 1 else 0) * u i) = u f := sm_one w f u hfw
  have e2 : sm w (fun i => (if hd i = -1 then 0 else M (hd i).toNat f) * u i) = sm k (fun r => u (H r) * M r f) := by
    have := h.sumH hH (fun r i => u i * M r f) w (Nat.le_refl _)
    rw [h.free, show w - (w - k) = k by have := h.1; omega] at this
    rw [← this]
    refine sm_cg w (fun i _ => ?_)
    by_cases q : hd i = -1
    · rw [if_pos q, if_pos q, Int.zero_mul]
    · rw [if_neg q, if_neg q, Int.mul_comm]
  have e3 : sm w (fun i => (rst p M hd i f - ((if i = f then 1 else 0) - (if hd i = -1 then 0 else M (hd i).toNat f))) * u i) = sm w (fun i => rst p M hd i f * u i) - (u f - sm k (fun r => u (H r) * M r f)) := by
    rw [← e1, ← e2, ← sm_sub, ← sm_sub]
    refine sm_cg w (fun i _ => ?_)
    rw [Int.sub_mul, Int.sub_mul]
  rw [← e3]
  exact sm_dvd w (fun i _ => Int.dvd_trans (rst_cg hf) (Int.dvd_mul_right _ _))
/-- a column lies in the space of least rows just when every free place's condition is met -/
theorem Rf.memR {p w k : Nat} {M : Nat → Nat → Int} {hd : Nat → Int} (h : Rf w k M hd) (u : Nat → Int) : Sp p k w M u ↔ ∀ f, f < w → hd f = -1 → (p : Int) ∣ sm w (fun i => rst p M hd i f * u i) := by
  obtain ⟨H, hH⟩ := h.exH
  rw [h.mem hH]
  constructor
  · intro q f hf e
    have := Int.dvd_add (h.rstSum (p := p) hH u hf e) (q f hf e)
    rwa [Int.sub_add_cancel] at this
  · intro q f hf e
    have := Int.dvd_sub (q f hf e) (h.rstSum (p := p) hH u hf e)
    rwa [show sm w (fun i => rst p M hd i f * u i) - (sm w (fun i => rst p M hd i f * u i) - (u f - sm k (fun r => u (H r) * M r f))) = u f - sm k (fun r => u (H r) * M r f) by omega] at this

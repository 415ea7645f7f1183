theorem sm_dvd {q : Int} {f : Nat → Int} : ∀ n, (∀ i, i < n → q ∣ f i) → q ∣ sm n f
  | 0, _ => Int.dvd_zero _
  | n + 1, h => Int.dvd_add (sm_dvd n (fun i hi => h i (by omega))) (h n (by omega))
theorem sm_sub (n : Nat) (f g : Nat → Int) : sm n (fun i => f i - g i) = sm n f - sm n g := by
  induction n with
  | zero => rfl
  | succ n ih => rw [sm_s, sm_s, sm_s, ih]; omega
theorem Rf.atH {w k : Nat} {M : Nat → Nat → Int} {hd : Nat → Int} (h : Rf w k M hd) {j r0 : Nat} (hj : j < w) (hr : r0 < k) (e : hd j = (r0 : Int)) (a : Nat → Int) : sm k (fun r => a r * M r j) = a r0 := by
  obtain ⟨a1, a2, -⟩ := h.2.2.2.2.1 j r0 hj e
  rw [← sm_one k r0 a hr]
  refine sm_cg k (fun i hi => ?_)
  by_cases q : i = r0
  · rw [q, a1, if_pos rfl, Int.mul_one, Int.one_mul]
  · rw [a2 i hi q, if_neg q, Int.mul_zero, Int.zero_mul]
/-- which columns lie in the space of least rows -/
theorem Rf.mem {p w k : Nat} {M : Nat → Nat → Int} {hd : Nat → Int} (h : Rf w k M hd) {H : Nat → Nat} (hH : ∀ r, r < k → H r < w ∧ hd (H r) = (r : Int)) (u : Nat → Int) : Sp p k w M u ↔ ∀ f, f < w → hd f = -1 → (p : Int) ∣ u f - sm k (fun r => u (H r) * M r f) := by
  constructor
  · rintro ⟨a, ha⟩ f hf _
    have hr : ∀ r, r < k → (p : Int) ∣ u (H r) - a r := fun r hr => by
      have := ha (H r) (hH r hr).1
      rwa [h.atH (hH r hr).1 hr (hH r hr).2 a] at this
    have h1 := ha f hf
    have h2 : (p : Int) ∣ sm k (fun r => (u (H r) - a r) * M r f) := sm_dvd k (fun r hr9 => Int.dvd_trans (hr r hr9) (Int.dvd_mul_right _ _))
    have e : sm k (fun r => (u (H r) - a r) * M r f) = sm k (fun r => u (H r) * M r f) - sm k (fun r => a r * M r f) := by
      rw [← sm_sub]
      exact sm_cg k (fun r _ => Int.sub_mul _ _ _)
    rw [e] at h2
    have h3 := Int.dvd_sub h1 h2
    rwa [show u f - sm k (fun i => a i * M i f) - (sm k (fun r => u (H r) * M r f) - sm k (fun r => a r * M r f)) = u f - sm k (fun r => u (H r) * M r f) by omega] at h3
  · intro hf
    refine ⟨fun r => u (H r), fun j hj => ?_⟩
    by_cases e : hd j = -1
    · exact hf j hj e
    · obtain ⟨r0, hr0, e0⟩ := (h.2.1 j hj).resolve_left e
      rw [h.atH hj hr0 e0 (fun r => u (H r)), h.inj (hH r0 hr0).1 hj (hH r0 hr0).2 e0, Int.sub_self]
      exact Int.dvd_zero _

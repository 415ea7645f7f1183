/-! maps, in bars -/
theorem Bar.cfG {K : Type} [Lean.Grind.CommRing K] {n D : Nat} {s : Nat → Nat} {Lf : Nat → Bool} {T : Nat → Nat → Nat → K} {R : Nat} {st en : Nat → Nat} {x : Nat → Nat → Nat → K} (h : Bar n D s Lf T R st en x) {φ : Nat → Nat → Nat → K} (f1 : ∀ k r i, ¬ lv st en k r → φ k r i = 0) (f2 : ∀ k, k < n → ∀ v : Nat → K, (∀ i, s k ≤ i → v i = 0) → ∀ j, v j = su R (fun r => su (s k) (fun i => φ k r i * v i) * x r k j)) (f3 : ∀ k, k < n → ∀ c : Nat → K, (∀ r, ¬ lv st en k r → c r = 0) → ∀ r, r < R → su (s k) (fun i => φ k r i * su R (fun q => c q * x q k i)) = c r) {k : Nat} (hk : k + 1 < n) {u : Nat → K} (hu : ∀ i, s (so Lf k) ≤ i → u i = 0) {r : Nat} (hr : r < R) : su (s (ta Lf k)) (fun i => φ (ta Lf k) r i * Fk D T k u i) = if st r ≤ ta Lf k ∧ ta Lf k ≤ en r then su (s (so Lf k)) (fun i => φ (so Lf k) r i * u i) else 0 := by
  obtain ⟨h1, h2, h3, h4, h5, h6, h7⟩ := h
  have hso : so Lf k < n := by rcases so_ta (Lf := Lf) (k := k) with ⟨_, e, _⟩ | ⟨_, e, _⟩ <;> omega
  have hta : ta Lf k < n := by rcases so_ta (Lf := Lf) (k := k) with ⟨_, _, e⟩ | ⟨_, _, e⟩ <;> omega
  have hF : ∀ q i, q < R → lv st en (so Lf k) q → Fk D T k (x q (so Lf k)) i = x q (ta Lf k) i := fun q i hq hl => by
    rcases so_ta (Lf := Lf) (k := k) with ⟨e0, e1, e2⟩ | ⟨e0, e1, e2⟩
    · rw [e1] at hl ⊢; rw [e2]; exact h7 k hk e0 q hq hl.2 i
    · rw [e1] at hl ⊢; rw [e2]; exact h6 k hk e0 q hq hl.1 i
  have e : ∀ i, Fk D T k u i = su R (fun q => (if st q ≤ ta Lf k ∧ ta Lf k ≤ en q then su (s (so Lf k)) (fun i => φ (so Lf k) q i * u i) else 0) * x q (ta Lf k) i) := fun i => by
    rw [Fk_cg (f2 _ hso u hu), Fk_su]
    refine su_cg R (fun q hq => ?_)
    by_cases l : lv st en (so Lf k) q
    · rw [hF q i hq l]
      by_cases l2 : st q ≤ ta Lf k ∧ ta Lf k ≤ en q
      · rw [if_pos l2]
      · rw [if_neg l2, h2 q (ta Lf k) i hq (by omega)]; grind
    · rw [su_z (s (so Lf k)) (fun i _ => by rw [f1 _ _ _ l]; grind)]
      by_cases l2 : st q ≤ ta Lf k ∧ ta Lf k ≤ en q
      · rw [if_pos l2]; grind
      · rw [if_neg l2]; grind
  rw [su_cg (s (ta Lf k)) (g := fun i => φ (ta Lf k) r i * su R (fun q => (if st q ≤ ta Lf k ∧ ta Lf k ≤ en q then su (s (so Lf k)) (fun i => φ (so Lf k) q i * u i) else 0) * x q (ta Lf k) i)) (fun i _ => by rw [e i])]
  exact f3 _ hta (fun q => if st q ≤ ta Lf k ∧ ta Lf k ≤ en q then su (s (so Lf k)) (fun i => φ (so Lf k) q i * u i) else 0) (fun q hq => if_neg hq) r hr
/-- an arrow leads a bar's vector to the bar's vector -/
theorem Bar.mv {K : Type} [Lean.Grind.CommRing K] {n D : Nat} {s : Nat → Nat} {Lf : Nat → Bool} {T : Nat → Nat → Nat → K} {R : Nat} {st en : Nat → Nat} {x : Nat → Nat → Nat → K} (h : Bar n D s Lf T R st en x) {k : Nat} (hk : k + 1 < n) {r : Nat} (hr : r < R) (i : Nat) : Fk D T k (x r (so Lf k)) i = if st r ≤ so Lf k ∧ so Lf k ≤ en r then x r (ta Lf k) i else 0 := by
  obtain ⟨h1, h2, h3, h4, h5, h6, h7⟩ := h
  by_cases l : st r ≤ so Lf k ∧ so Lf k ≤ en r
  · rw [if_pos l]
    rcases so_ta (Lf := Lf) (k := k) with ⟨e0, e1, e2⟩ | ⟨e0, e1, e2⟩
    · rw [e1] at l ⊢; rw [e2]; exact h7 k hk e0 r hr l.2 i
    · rw [e1] at l ⊢; rw [e2]; exact h6 k hk e0 r hr l.1 i
  · rw [if_neg l]
    exact Fk_z (fun i => h2 r _ i hr (by omega)) i
/-! tables for each post, one behind another -/
def flat {K : Type} [Lean.Grind.CommRing K] (n : Nat) (fr sB sA : Nat → Nat) (Φ : Nat → Nat → Nat → K) : Nat → K := fun c => su n (fun k => if fr k ≤ c ∧ c < fr k + sB k * sA k then Φ k ((c - fr k) / sA k) ((c - fr k) % sA k) else 0)
theorem pl_lt {b a i z : Nat} (hi : i < b) (hz : z < a) : i * a + z < b * a := by
  have : (i + 1) * a ≤ b * a := Nat.mul_le_mul_right a hi
  rw [Nat.add_mul] at this
  omega
theorem flat_at {K : Type} [Lean.Grind.CommRing K] {n : Nat} {fr sB sA : Nat → Nat} (hfr : ∀ k, k < n → fr (k + 1) = fr k + sB k * sA k) (Φ : Nat → Nat → Nat → K) {k i z : Nat} (hk : k < n) (hi : i < sB k) (hz : z < sA k) : flat n fr sB sA Φ (fr k + (i * sA k + z)) = Φ k i z := by
  have hp := pl_lt hi hz
  unfold flat
  rw [su_one hk _ (fun j hj hne => ?_)]
  · rw [if_pos ⟨by omega, by omega⟩, show fr k + (i * sA k + z) - fr k = z + i * sA k by omega, Nat.add_mul_div_right _ _ (by omega), Nat.div_eq_of_lt hz, Nat.add_mul_mod_self_right, Nat.mod_eq_of_lt hz, Nat.zero_add]
  · rw [if_neg]
    rintro ⟨q1, q2⟩
    rcases Nat.lt_or_ge j k with l | l
    · have := fr_mono (fr := fr) (s := fun k => sB k * sA k) (a := 0) (b := n - 1) (fun k _ hk => hfr k (by omega)) j k (by omega) l (by omega)
      omega
    · have := fr_mono (fr := fr) (s := fun k => sB k * sA k) (a := 0) (b := n - 1) (fun k _ hk => hfr k (by omega)) k j (by omega) (by omega) (by omega)
      omega
theorem slot {n : Nat} {fr sB sA : Nat → Nat} (h0 : fr 0 = 0) (hfr : ∀ k, k < n → fr (k + 1) = fr k + sB k * sA k) : ∀ m, m ≤ n → ∀ c, c < fr m → ∃ k i z, k < m ∧ i < sB k ∧ z < sA k ∧ c = fr k + (i * sA k + z)
  | 0, _, c, hc => by omega
  | m + 1, hm, c, hc => by
    by_cases l : c < fr m
    · obtain ⟨k, i, z, a1, a2⟩ := slot h0 hfr m (by omega) c l
      exact ⟨k, i, z, by omega, a2⟩
    · rw [hfr m (by omega)] at hc
      have hpos : 0 < sA m := by
        rcases Nat.eq_zero_or_pos (sA m) with q | q
        · rw [q, Nat.mul_zero] at hc; omega
        · exact q
      refine ⟨m, (c - fr m) / sA m, (c - fr m) % sA m, by omega, ?_, Nat.mod_lt _ hpos, ?_⟩
      · rw [Nat.div_lt_iff_lt_mul hpos]; omega
      · have := Nat.div_add_mod (c - fr m) (sA m)
        rw [Nat.mul_comm] at this
        omega
theorem flat_out {K : Type} [Lean.Grind.CommRing K] {n : Nat} {fr sB sA : Nat → Nat} (hfr : ∀ k, k < n → fr (k + 1) = fr k + sB k * sA k) (Φ : Nat → Nat → Nat → K) {c : Nat} (hc : fr n ≤ c) : flat n fr sB sA Φ c = 0 := by
  unfold flat
  refine su_z n (fun k hk => if_neg ?_)
  rintro ⟨q1, q2⟩
  have := hfr k hk
  rcases Nat.lt_or_ge (k + 1) n with l | l
  · have := fr_mono (fr := fr) (s := fun k => sB k * sA k) (a := 0) (b := n - 1) (fun k _ hk => hfr k (by omega)) k n (by omega) (by omega) (by omega)
    omega
  · have e : k + 1 = n := by omega
    rw [e] at this
    omega
theorem flat_ext {K : Type} [Lean.Grind.CommRing K] {n : Nat} {fr sB sA : Nat → Nat} (h0 : fr 0 = 0) (hfr : ∀ k, k < n → fr (k + 1) = fr k + sB k * sA k) {u v : Nat → K} (hu : ∀ c, fr n ≤ c → u c = 0) (hv : ∀ c, fr n ≤ c → v c = 0) (e : ∀ k i z, k < n → i < sB k → z < sA k → u (fr k + (i * sA k + z)) = v (fr k + (i * sA k + z))) (c : Nat) : u c = v c := by
  by_cases l : c < fr n
  · obtain ⟨k, i, z, a1, a2, a3, rfl⟩ := slot h0 hfr n (Nat.le_refl _) c l
    exact e k i z a1 a2 a3
  · rw [hu c (by omega), hv c (by omega)]
theorem su_pair {K : Type} [Lean.Grind.CommRing K] (F : Nat → Nat → K) (B : Nat) : ∀ A, su (A * B) (fun t => F (t / B) (t % B)) = su A (fun r => su B (fun q => F r q))
  | 0 => by rw [Nat.zero_mul]; rfl
  | A + 1 => by
    rw [Nat.add_mul, Nat.one_mul, su_split, su_pair F B A, su_s]
    congr 1
    refine su_cg B (fun q hq => ?_)
    rw [show A * B + q = q + A * B by omega, Nat.add_mul_div_right _ _ (by omega), Nat.div_eq_of_lt hq, Nat.add_mul_mod_self_right, Nat.mod_eq_of_lt hq, Nat.zero_add]
theorem pair_lt {A B t : Nat} (h : t < A * B) : t / B < A ∧ t % B < B := by
  have hB : 0 < B := by
    rcases Nat.eq_zero_or_pos B with q | q
    · rw [q, Nat.mul_zero] at h; omega
    · exact q
  exact ⟨(Nat.div_lt_iff_lt_mul hB).mpr h, Nat.mod_lt _ hB⟩
/-- whether there is a map that isn't 0 from the span a .. b to c .. d -/
def vdm (Lf : Nat → Bool) (a b c d : Nat) : Bool := decide (max a c ≤ min b d) && ((decide (a = c) || (Lf (max a c - 1) == decide (a < c))) && (decide (b = d) || (Lf (min b d) == decide (b < d))))
theorem vdm_t {Lf : Nat → Bool} {a b c d : Nat} : vdm Lf a b c d = true ↔ max a c ≤ min b d ∧ (a = c ∨ (Lf (max a c - 1) = true ↔ a < c)) ∧ (b = d ∨ (Lf (min b d) = true ↔ b < d)) := by
  unfold vdm
  simp only [Bool.and_eq_true, Bool.or_eq_true, decide_eq_true_eq, beq_iff_eq]
  constructor
  · rintro ⟨h1, h2, h3⟩
    exact ⟨h1, h2.imp id (fun h => by rw [h, decide_eq_true_eq]), h3.imp id (fun h => by rw [h, decide_eq_true_eq])⟩
  · rintro ⟨h1, h2, h3⟩
    exact ⟨h1, h2.imp id (fun h => by rw [Bool.eq_iff_iff, h, decide_eq_true_eq]), h3.imp id (fun h => by rw [Bool.eq_iff_iff, h, decide_eq_true_eq])⟩
def Heq {K : Type} [Lean.Grind.CommRing K] (n : Nat) (fr sA sB : Nat → Nat) (Lf : Nat → Bool) (TA TB : Nat → Nat → Nat → K) (v : Nat → K) : Prop := ∀ k i j, k + 1 < n → i < sB (ta Lf k) → j < sA (so Lf k) → su (sA (ta Lf k)) (fun z => TA k z j * v (fr (ta Lf k) + (i * sA (ta Lf k) + z))) = su (sB (so Lf k)) (fun z => TB k i z * v (fr (so Lf k) + (z * sA (so Lf k) + j)))

/-! bases: made longer, and of a space within -/
def cat {K : Type} (R : Nat) (y z : Nat → Nat → K) : Nat → Nat → K := fun r => if r < R then y r else z (r - R)
theorem cat_lo {K : Type} {R r : Nat} {y z : Nat → Nat → K} (h : r < R) : cat R y z r = y r := if_pos h
theorem cat_hi {K : Type} {R r : Nat} {y z : Nat → Nat → K} : cat R y z (R + r) = z r := by
  unfold cat
  rw [if_neg (by omega), show R + r - R = r by omega]
theorem su_split {K : Type} [Lean.Grind.CommRing K] (R b : Nat) (f : Nat → K) : su (R + b) f = su R f + su b (fun i => f (R + i)) := by
  induction b with
  | zero => rw [Nat.add_zero, su_0]; grind
  | succ b ih => rw [← Nat.add_assoc, su_s, ih, su_s]; grind
def e1 {K : Type} [Lean.Grind.CommRing K] (j : Nat) : Nat → K := fun i => if i = j then 1 else 0
theorem su_e1 {K : Type} [Lean.Grind.CommRing K] {d : Nat} {v : Nat → K} (hv : ∀ i, d ≤ i → v i = 0) (i : Nat) : v i = su d (fun j => v j * e1 j i) := by
  by_cases h : i < d
  · rw [su_one h _ (fun j _ hne => by unfold e1; rw [if_neg (by omega)]; grind)]
    unfold e1
    rw [if_pos rfl]
    grind
  · rw [hv i (by omega), su_z d (fun j hj => by unfold e1; rw [if_neg (by omega)]; grind)]
theorem ext {K : Type} [Lean.Grind.CommRing K] (inv : ∀ x : K, x ≠ 0 → ∃ y, x * y = 1) {R d : Nat} {A : Nat → Prop} {y : Nat → Nat → K} (h : Ind R A y) : ∃ (b : Nat) (z : Nat → Nat → K), (∀ q, q < b → ∀ i, d ≤ i → z q i = 0) ∧ Ind (R + b) (fun r => r < R → A r) (cat R y z) ∧ ∀ v : Nat → K, (∀ i, d ≤ i → v i = 0) → Spn (R + b) (fun r => r < R → A r) (cat R y z) v := by
  have key : ∀ j, j ≤ d → ∃ (b : Nat) (z : Nat → Nat → K), (∀ q, q < b → ∀ i, d ≤ i → z q i = 0) ∧ Ind (R + b) (fun r => r < R → A r) (cat R y z) ∧ ∀ q, q < j → Spn (R + b) (fun r => r < R → A r) (cat R y z) (e1 q) := by
    intro j
    induction j with
    | zero =>
      intro _
      refine ⟨0, fun _ _ => 0, fun q hq => absurd hq (Nat.not_lt_zero _), ?_, fun q hq => absurd hq (Nat.not_lt_zero _)⟩
      rw [Nat.add_zero]
      exact (h.cgx (fun r i hr _ => by rw [cat_lo hr])).cgA (fun r hr ha => ha hr)
    | succ j ih =>
      intro hj
      obtain ⟨b, z, h1, h2, h3⟩ := ih (by omega)
      by_cases hs : Spn (R + b) (fun r => r < R → A r) (cat R y z) (e1 j)
      · refine ⟨b, z, h1, h2, fun q hq => ?_⟩
        by_cases e : q = j
        · rw [e]; exact hs
        · exact h3 q (by omega)
      · have hc : ∀ r, r < R + b → cat R y (up z b (e1 j)) r = cat R y z r := fun r hr => by
          unfold cat
          by_cases hl : r < R
          · rw [if_pos hl, if_pos hl]
          · rw [if_neg hl, if_neg hl, up_n _ _ (by omega)]
        have hl : cat R y (up z b (e1 j)) (R + b) = e1 j := by rw [cat_hi, up_s]
        have up9 : ∀ v : Nat → K, Spn (R + b) (fun r => r < R → A r) (cat R y z) v → Spn (R + b + 1) (fun r => r < R → A r) (cat R y (up z b (e1 j))) v := fun v hv => by
          refine Spn.le (fun r hr ha => ?_) hv
          rw [← hc r hr]
          exact Spn.one (by omega) ha
        refine ⟨b + 1, up z b (e1 j), fun q hq i hi => ?_, ?_, fun q hq => ?_⟩
        · by_cases e : q = b
          · rw [e, up_s]; unfold e1; rw [if_neg (by omega)]
          · rw [up_n _ _ e]; exact h1 q (by omega) i hi
        · intro c c1 c2
          rw [← Nat.add_assoc] at c2
          have hcb : c (R + b) = 0 := by
            refine Classical.byContradiction fun hne => ?_
            obtain ⟨t, ht⟩ := inv _ hne
            refine hs ⟨fun r => - (t * c r), fun r hr => by dsimp only; rw [c1 r hr]; grind, fun i => ?_⟩
            have := c2 i
            rw [su_s, hl, su_cg (R + b) (g := fun r => c r * cat R y z r i) (fun r hr => by rw [hc r hr])] at this
            rw [su_cg (R + b) (g := fun r => (-t) * (c r * cat R y z r i)) (fun r _ => by grind), su_mul]
            grind
          have hlo := h2 c c1 (fun i => by
            have := c2 i
            rw [su_s, hcb, su_cg (R + b) (g := fun r => c r * cat R y z r i) (fun r hr => by rw [hc r hr])] at this
            grind)
          intro r hr
          by_cases e : r = R + b
          · rw [e]; exact hcb
          · exact hlo r (by omega)
        · by_cases e : q = j
          · subst e
            rw [← Nat.add_assoc]
            have := Spn.one (R := R + b + 1) (A := fun r => r < R → A r) (x := cat R y (up z b (e1 q))) (r := R + b) (by omega) (fun q => absurd q (by omega))
            rwa [hl] at this
          · exact up9 _ (h3 q (by omega))
  obtain ⟨b, z, h1, h2, h3⟩ := key d (Nat.le_refl _)
  refine ⟨b, z, h1, h2, fun v hv => ?_⟩
  exact (Spn.sum v d h3).cg (su_e1 hv)
/-- a space within has a basis -/
theorem subb {K : Type} [Lean.Grind.CommRing K] (inv : ∀ x : K, x ≠ 0 → ∃ y, x * y = 1) {d : Nat} {U : (Nat → K) → Prop} (hU : ∀ u v t, U u → U v → U (fun i => u i + t * v i)) (hS : ∀ u, U u → ∀ i, d ≤ i → u i = 0) : ∃ (b : Nat) (z : Nat → Nat → K), (∀ q, q < b → U (z q)) ∧ Ind b (fun _ => True) z ∧ ∀ v, U v → Spn b (fun _ => True) z v := by
  have key : ∀ j, ∃ (b : Nat) (z : Nat → Nat → K), (∀ q, q < b → U (z q) ∧ ∀ i, j ≤ i → z q i = 0) ∧ Ind b (fun _ => True) z ∧ ∀ v, U v → (∀ i, j ≤ i → v i = 0) → Spn b (fun _ => True) z v := by
    intro j
    induction j with
    | zero => exact ⟨0, fun _ _ => 0, fun q hq => absurd hq (Nat.not_lt_zero _), fun c _ _ r hr => absurd hr (Nat.not_lt_zero _), fun v _ hv => Spn.zero.cg (fun i => hv i (Nat.zero_le _))⟩
    | succ j ih =>
      obtain ⟨b, z, h1, h2, h3⟩ := ih
      by_cases hx : ∃ u, U u ∧ (∀ i, j + 1 ≤ i → u i = 0) ∧ u j ≠ 0
      · obtain ⟨u, u1, u2, u3⟩ := hx
        obtain ⟨t, ht⟩ := inv _ u3
        have hlo : ∀ (c : Nat → K) i, su b (fun q => c q * up z b u q i) = su b (fun q => c q * z q i) := fun c i => su_cg b (fun q hq => by rw [up_n _ _ (by omega)])
        refine ⟨b + 1, up z b u, fun q hq => ?_, fun c c1 c2 => ?_, fun v hv hvz => ?_⟩
        · by_cases e : q = b
          · subst e; rw [up_s]; exact ⟨u1, u2⟩
          · rw [up_n _ _ e]
            exact ⟨(h1 q (by omega)).1, fun i hi => (h1 q (by omega)).2 i (by omega)⟩
        · have hcb : c b = 0 := by
            have := c2 j
            rw [su_s, hlo, up_s, su_z b (fun q hq => by rw [(h1 q hq).2 j (Nat.le_refl _)]; grind)] at this
            grind
          have hl := h2 c (fun r q => absurd trivial q) (fun i => by
            have := c2 i
            rw [su_s, hlo, hcb] at this
            grind)
          intro r hr
          by_cases e : r = b
          · rw [e]; exact hcb
          · exact hl r (by omega)
        · obtain ⟨c, c1, c2⟩ := h3 (fun i => v i + (-(v j * t)) * u i) (hU v u _ hv u1) (fun i hi => by
            by_cases e : i = j
            · subst e; grind
            · rw [hvz i (by omega), u2 i (by omega)]; grind)
          refine ⟨up c b (v j * t), fun r q => absurd trivial q, fun i => ?_⟩
          rw [su_s, up_s, up_s, su_cg b (g := fun q => c q * z q i) (fun q hq => by rw [up_n _ _ (by omega), up_n _ _ (by omega)])]
          have := c2 i
          grind
      · refine ⟨b, z, fun q hq => ⟨(h1 q hq).1, fun i hi => (h1 q hq).2 i (by omega)⟩, h2, fun v hv hvz => h3 v hv (fun i hi => ?_)⟩
        by_cases e : i = j
        · rw [e]
          exact Classical.byContradiction fun q => hx ⟨v, hv, hvz, q⟩
        · exact hvz i (by omega)
  obtain ⟨b, z, h1, h2, h3⟩ := key d
  exact ⟨b, z, fun q hq => (h1 q hq).1, h2, fun v hv => h3 v hv (hS v hv)⟩

set_option maxHeartbeats 2000000 in
theorem Bar.hom {K : Type} [Lean.Grind.CommRing K] (inv : ∀ x : K, x ≠ 0 → ∃ y, x * y = 1) (h01 : (1 : K) ≠ 0) {n D : Nat} {Lf : Nat → Bool} {sA sB : Nat → Nat} {TA TB : Nat → Nat → Nat → K} {RA RB : Nat} {stA enA stB enB : Nat → Nat} {x y : Nat → Nat → Nat → K} (hA : Bar n D sA Lf TA RA stA enA x) (hB : Bar n D sB Lf TB RB stB enB y) (hDA : ∀ k, sA k ≤ D) (hDB : ∀ k, sB k ≤ D) {fr : Nat → Nat} (h0 : fr 0 = 0) (hfr : ∀ k, k < n → fr (k + 1) = fr k + sB k * sA k) {kr : Nat} {M : Nat → Nat → K} {H : Nat → Nat} (hM : RK (fr n) kr M H) (hZ : ∀ v : Nat → K, (∀ c, fr n ≤ c → v c = 0) → ((∀ r, r < kr → su (fr n) (fun c => M r c * v c) = 0) ↔ Heq n fr sA sB Lf TA TB v)) : fr n - kr = cnt (RA * RB) (fun t => vdm Lf (stA (t / RB)) (enA (t / RB)) (stB (t % RB)) (enB (t % RB))) := by
  obtain ⟨φ, f1, f2, f3⟩ := hA.dual
  obtain ⟨ψ, p1, p2, p3⟩ := hB.dual
  have cfA := fun {k : Nat} (hk : k + 1 < n) {u : Nat → K} (hu : ∀ i, sA (so Lf k) ≤ i → u i = 0) {r : Nat} (hr : r < RA) => hA.cfG f1 f2 f3 hk hu hr
  have cfB := fun {k : Nat} (hk : k + 1 < n) {u : Nat → K} (hu : ∀ i, sB (so Lf k) ≤ i → u i = 0) {r : Nat} (hr : r < RB) => hB.cfG p1 p2 p3 hk hu hr
  have mvA := fun {k : Nat} (hk : k + 1 < n) {r : Nat} (hr : r < RA) (i : Nat) => hA.mv hk hr i
  have mvB := fun {k : Nat} (hk : k + 1 < n) {r : Nat} (hr : r < RB) (i : Nat) => hB.mv hk hr i
  obtain ⟨a1, a2, a3, a4, a5, a6, a7⟩ := id hA
  obtain ⟨b1, b2, b3, b4, b5, b6, b7⟩ := id hB
  have hso : ∀ k, k + 1 < n → so Lf k < n := fun k hk => by rcases so_ta (Lf := Lf) (k := k) with ⟨_, e, _⟩ | ⟨_, e, _⟩ <;> omega
  have hta : ∀ k, k + 1 < n → ta Lf k < n := fun k hk => by rcases so_ta (Lf := Lf) (k := k) with ⟨_, _, e⟩ | ⟨_, _, e⟩ <;> omega
  -- dual vectors on the bars' vectors
  have dA : ∀ k, k < n → ∀ r r', r < RA → r' < RA → lv stA enA k r → su (sA k) (fun z => φ k r' z * x r k z) = if r' = r then 1 else 0 := fun k hk r r' hr hr' hl => by
    have := f3 k hk (e1 r) (fun q hq => if_neg (fun e => hq (by rw [e]; exact hl))) r' hr'
    rw [su_cg (sA k) (g := fun z => φ k r' z * x r k z) (fun z _ => by
      rw [su_one hr _ (fun q _ hne => by unfold e1; rw [if_neg hne]; grind)]
      unfold e1
      rw [if_pos rfl]; grind)] at this
    rw [this]; rfl
  have dB : ∀ k, k < n → ∀ r r', r < RB → r' < RB → lv stB enB k r → su (sB k) (fun z => ψ k r' z * y r k z) = if r' = r then 1 else 0 := fun k hk r r' hr hr' hl => by
    have := p3 k hk (e1 r) (fun q hq => if_neg (fun e => hq (by rw [e]; exact hl))) r' hr'
    rw [su_cg (sB k) (g := fun z => ψ k r' z * y r k z) (fun z _ => by
      rw [su_one hr _ (fun q _ hne => by unfold e1; rw [if_neg hne]; grind)]
      unfold e1
      rw [if_pos rfl]; grind)] at this
    rw [this]; rfl
  have xA : ∀ k, k < n → ∀ j, j < sA k → ∀ z, (e1 j : Nat → K) z = su RA (fun r => φ k r j * x r k z) := fun k hk j hj z => by
    rw [f2 k hk (e1 j) (fun i hi => if_neg (by omega)) z]
    refine su_cg RA (fun r _ => ?_)
    rw [su_one hj _ (fun i _ hne => by unfold e1; rw [if_neg hne]; grind)]
    unfold e1
    rw [if_pos rfl]; grind
  have colA : ∀ k, k + 1 < n → ∀ j, j < sA (so Lf k) → ∀ z, TA k z j = Fk D TA k (e1 j) z := fun k hk j hj z => by
    unfold Fk
    have := hDA (so Lf k)
    rw [su_one (show j < D by omega) _ (fun i _ hne => by unfold e1; rw [if_neg hne]; grind)]
    unfold e1
    rw [if_pos rfl]; grind
  have FkB : ∀ k, k + 1 < n → ∀ u : Nat → K, (∀ i, sB (so Lf k) ≤ i → u i = 0) → ∀ i, Fk D TB k u i = su (sB (so Lf k)) (fun z => TB k i z * u z) := fun k hk u hu i => su_le (hDB _) (fun z hz _ => by rw [hu z hz]; grind)
  have FkA : ∀ k, k + 1 < n → ∀ u : Nat → K, (∀ i, sA (so Lf k) ≤ i → u i = 0) → ∀ i, Fk D TA k u i = su (sA (so Lf k)) (fun z => TA k i z * u z) := fun k hk u hu i => su_le (hDA _) (fun z hz _ => by rw [hu z hz]; grind)
  -- the maps of pairs
  let hm : Nat → Nat → K := fun t => flat n fr sB sA (fun k i z => y (t % RB) k i * φ k (t / RB) z)
  have hmat : ∀ t k i z, k < n → i < sB k → z < sA k → hm t (fr k + (i * sA k + z)) = y (t % RB) k i * φ k (t / RB) z := fun t k i z hk hi hz => flat_at hfr _ hk hi hz
  have hmout : ∀ t c, fr n ≤ c → hm t c = 0 := fun t c hc => flat_out hfr _ hc
  let vd : Nat → Bool := fun t => vdm Lf (stA (t / RB)) (enA (t / RB)) (stB (t % RB)) (enB (t % RB))
  -- each is a map
  have hmZ : ∀ t, t < RA * RB → vd t = true → Heq n fr sA sB Lf TA TB (hm t) := by
    intro t ht hv k i j hk hi hj
    obtain ⟨tr, tq⟩ := pair_lt ht
    have hv9 := vdm_t.mp hv
    rw [su_cg (sA (ta Lf k)) (g := fun z => y (t % RB) (ta Lf k) i * (φ (ta Lf k) (t / RB) z * Fk D TA k (e1 j) z)) (fun z hz => by
      rw [hmat t _ i z (hta k hk) hi hz, colA k hk j hj z]; grind), su_mul, cfA hk (u := e1 j) (fun i hi => if_neg (by omega)) tr]
    rw [su_cg (sB (so Lf k)) (g := fun z => (TB k i z * y (t % RB) (so Lf k) z) * φ (so Lf k) (t / RB) j) (fun z hz => by
      rw [hmat t _ z j (hso k hk) hz hj]; grind), su_mulr, ← FkB k hk (y (t % RB) (so Lf k)) (fun i hi => b3 _ _ i tq hi) i, mvB hk tq i]
    have e9 : su (sA (so Lf k)) (fun i => φ (so Lf k) (t / RB) i * (e1 j : Nat → K) i) = φ (so Lf k) (t / RB) j := by
      rw [su_one hj _ (fun i _ hne => by unfold e1; rw [if_neg hne]; grind)]
      unfold e1
      rw [if_pos rfl]; grind
    rw [e9]
    generalize t / RB = r at tr hv9 ⊢
    generalize t % RB = q at tq hv9 ⊢
    by_cases l1 : lv stB enB (ta Lf k) q
    · by_cases l2 : lv stA enA (so Lf k) r
      · have key : (stA r ≤ ta Lf k ∧ ta Lf k ≤ enA r) ↔ (stB q ≤ so Lf k ∧ so Lf k ≤ enB q) := by
          have w1 := a1 r tr
          have w2 := b1 q tq
          obtain ⟨l1a, l1b⟩ := l1
          obtain ⟨l2a, l2b⟩ := l2
          obtain ⟨v1, v2, v3⟩ := hv9
          rcases so_ta (Lf := Lf) (k := k) with ⟨q0, q1, q2⟩ | ⟨q0, q1, q2⟩
          · rw [q1] at l2a l2b ⊢
            rw [q2] at l1a l1b ⊢
            constructor
            · intro z
              refine ⟨by omega, ?_⟩
              refine Classical.byContradiction fun y => ?_
              rcases v3 with v3 | v3
              · omega
              · rw [show min (enA r) (enB q) = k by omega] at v3
                have := v3.mp q0
                omega
            · intro z
              refine ⟨?_, by omega⟩
              refine Classical.byContradiction fun y => ?_
              rcases v2 with v2 | v2
              · omega
              · rw [show max (stA r) (stB q) - 1 = k by omega] at v2
                have := v2.mp q0
                omega
          · rw [q1] at l2a l2b ⊢
            rw [q2] at l1a l1b ⊢
            constructor
            · intro z
              refine ⟨?_, by omega⟩
              refine Classical.byContradiction fun y => ?_
              rcases v2 with v2 | v2
              · omega
              · rw [show max (stA r) (stB q) - 1 = k by omega] at v2
                have := v2.mpr (by omega)
                rw [q0] at this
                exact absurd this (by decide)
            · intro z
              refine ⟨by omega, ?_⟩
              refine Classical.byContradiction fun y => ?_
              rcases v3 with v3 | v3
              · omega
              · rw [show min (enA r) (enB q) = k by omega] at v3
                have := v3.mpr (by omega)
                rw [q0] at this
                exact absurd this (by decide)
        by_cases z : stA r ≤ ta Lf k ∧ ta Lf k ≤ enA r
        · rw [if_pos z, if_pos (key.mp z)]
        · rw [if_neg z, if_neg (fun w => z (key.mpr w))]; grind
      · rw [f1 _ _ _ l2]
        by_cases z : stA r ≤ ta Lf k ∧ ta Lf k ≤ enA r
        · rw [if_pos z]; grind
        · rw [if_neg z]; grind
    · rw [b2 q _ i tq (by unfold lv at l1; omega)]
      by_cases z : stB q ≤ so Lf k ∧ so Lf k ≤ enB q
      · rw [if_pos z]; grind
      · rw [if_neg z]; grind
  -- coordinates of a family of tables
  let hc : (Nat → K) → Nat → Nat → Nat → K := fun v k r q => su (sB k) (fun i => ψ k q i * su (sA k) (fun z => v (fr k + (i * sA k + z)) * x r k z))
  have hc0 : ∀ v k r q, r < RA → ¬ (lv stA enA k r ∧ lv stB enB k q) → hc v k r q = 0 := fun v k r q hr hn => by
    show su (sB k) (fun i => ψ k q i * su (sA k) (fun z => v (fr k + (i * sA k + z)) * x r k z)) = 0
    by_cases l : lv stB enB k q
    · have l2 : ¬ lv stA enA k r := fun z => hn ⟨z, l⟩
      exact su_z (sB k) (fun i _ => by rw [su_z (sA k) (fun z _ => by rw [a2 r k z hr (by unfold lv at l2; omega)]; grind)]; grind)
    · exact su_z (sB k) (fun i _ => by rw [p1 _ _ _ l]; grind)
  have hback : ∀ v k i z, k < n → i < sB k → z < sA k → v (fr k + (i * sA k + z)) = su RA (fun r => su RB (fun q => hc v k r q * (y q k i * φ k r z))) := fun v k i z hk hi hz => by
    have s1 : v (fr k + (i * sA k + z)) = su RB (fun q => su (sB k) (fun i' => ψ k q i' * v (fr k + (i' * sA k + z))) * y q k i) := by
      have := p2 k hk (fun i' => if i' < sB k then v (fr k + (i' * sA k + z)) else 0) (fun i' hi' => if_neg (by omega)) i
      rw [if_pos hi] at this
      rw [this]
      refine su_cg RB (fun q _ => ?_)
      rw [su_cg (sB k) (fun i' hi' => by rw [if_pos hi'])]
    have s2 : ∀ q, su (sB k) (fun i' => ψ k q i' * v (fr k + (i' * sA k + z))) = su RA (fun r => hc v k r q * φ k r z) := fun q => by
      have ev : ∀ i', v (fr k + (i' * sA k + z)) = su RA (fun r => φ k r z * su (sA k) (fun z' => v (fr k + (i' * sA k + z')) * x r k z')) := fun i' => by
        rw [su_cg RA (g := fun r => su (sA k) (fun z' => v (fr k + (i' * sA k + z')) * (φ k r z * x r k z'))) (fun r _ => by
          rw [← su_mul]
          exact su_cg (sA k) (fun z' _ => by grind)), su_swap, su_cg (sA k) (g := fun z' => v (fr k + (i' * sA k + z')) * (e1 z : Nat → K) z') (fun z' _ => by rw [su_mul, ← xA k hk z hz z'])]
        rw [su_one hz _ (fun i _ hne => by unfold e1; rw [if_neg hne]; grind)]
        unfold e1
        rw [if_pos rfl]; grind
      rw [su_cg (sB k) (g := fun i' => su RA (fun r => ψ k q i' * su (sA k) (fun z' => v (fr k + (i' * sA k + z')) * x r k z') * φ k r z)) (fun i' _ => by
        rw [ev i', ← su_mul]
        exact su_cg RA (fun r _ => by grind)), su_swap]
      refine su_cg RA (fun r _ => ?_)
      rw [su_mulr]
    rw [s1, su_cg RB (g := fun q => su RA (fun r => hc v k r q * (y q k i * φ k r z))) (fun q _ => by
      rw [s2 q, ← su_mulr]
      exact su_cg RA (fun r _ => by grind)), su_swap]
  -- of a map, they go along with the arrows
  have hstep : ∀ v, Heq n fr sA sB Lf TA TB v → ∀ k, k + 1 < n → ∀ r q, r < RA → q < RB → (if stA r ≤ so Lf k ∧ so Lf k ≤ enA r then hc v (ta Lf k) r q else 0) = (if stB q ≤ ta Lf k ∧ ta Lf k ≤ enB q then hc v (so Lf k) r q else 0) := fun v hv k hk r q hr hq => by
    have eL : su (sB (ta Lf k)) (fun i => ψ (ta Lf k) q i * su (sA (so Lf k)) (fun j => su (sA (ta Lf k)) (fun z => TA k z j * v (fr (ta Lf k) + (i * sA (ta Lf k) + z))) * x r (so Lf k) j)) = (if stA r ≤ so Lf k ∧ so Lf k ≤ enA r then hc v (ta Lf k) r q else 0) := by
      have e1 : ∀ i, su (sA (so Lf k)) (fun j => su (sA (ta Lf k)) (fun z => TA k z j * v (fr (ta Lf k) + (i * sA (ta Lf k) + z))) * x r (so Lf k) j) = su (sA (ta Lf k)) (fun z => v (fr (ta Lf k) + (i * sA (ta Lf k) + z)) * (if stA r ≤ so Lf k ∧ so Lf k ≤ enA r then x r (ta Lf k) z else 0)) := fun i => by
        rw [su_cg (sA (so Lf k)) (g := fun j => su (sA (ta Lf k)) (fun z => v (fr (ta Lf k) + (i * sA (ta Lf k) + z)) * (TA k z j * x r (so Lf k) j))) (fun j _ => by
          rw [← su_mulr]
          exact su_cg _ (fun z _ => by grind)), su_swap]
        refine su_cg _ (fun z _ => ?_)
        rw [su_mul, ← FkA k hk (x r (so Lf k)) (fun i hi => a3 r _ i hr hi) z, mvA hk hr z]
      rw [su_cg (sB (ta Lf k)) (fun i _ => by rw [e1 i])]
      by_cases l : stA r ≤ so Lf k ∧ so Lf k ≤ enA r
      · rw [if_pos l]
        exact su_cg _ (fun i _ => by rw [su_cg _ (fun z _ => by rw [if_pos l])])
      · rw [if_neg l]
        exact su_z _ (fun i _ => by rw [su_z _ (fun z _ => by rw [if_neg l]; grind)]; grind)
    have eR : su (sB (ta Lf k)) (fun i => ψ (ta Lf k) q i * su (sA (so Lf k)) (fun j => su (sB (so Lf k)) (fun z => TB k i z * v (fr (so Lf k) + (z * sA (so Lf k) + j))) * x r (so Lf k) j)) = (if stB q ≤ ta Lf k ∧ ta Lf k ≤ enB q then hc v (so Lf k) r q else 0) := by
      have hu : ∀ i, sB (so Lf k) ≤ i → (fun z => if z < sB (so Lf k) then su (sA (so Lf k)) (fun j => v (fr (so Lf k) + (z * sA (so Lf k) + j)) * x r (so Lf k) j) else 0) i = 0 := fun i hi => if_neg (by omega)
      have := cfB hk hu hq
      rw [su_cg (sB (ta Lf k)) (g := fun i => ψ (ta Lf k) q i * su (sA (so Lf k)) (fun j => su (sB (so Lf k)) (fun z => TB k i z * v (fr (so Lf k) + (z * sA (so Lf k) + j))) * x r (so Lf k) j)) (fun i _ => by
        rw [FkB k hk _ hu i, su_cg (sA (so Lf k)) (g := fun j => su (sB (so Lf k)) (fun z => TB k i z * (v (fr (so Lf k) + (z * sA (so Lf k) + j)) * x r (so Lf k) j))) (fun j _ => by
          rw [← su_mulr]
          exact su_cg _ (fun z _ => by grind)), su_swap]
        congr 1
        refine su_cg _ (fun z hz => ?_)
        rw [su_mul, if_pos hz])] at this
      rw [this, su_cg (sB (so Lf k)) (g := fun i => ψ (so Lf k) q i * su (sA (so Lf k)) (fun j => v (fr (so Lf k) + (i * sA (so Lf k) + j)) * x r (so Lf k) j)) (fun i hi => by rw [if_pos hi])]
    rw [← eL, ← eR]
    refine su_cg _ (fun i hi => ?_)
    rw [su_cg (sA (so Lf k)) (fun j hj => by rw [hv k i j hk hi hj])]
  -- so a map has one number for each pair
  have hconst : ∀ v, Heq n fr sA sB Lf TA TB v → ∀ r q, r < RA → q < RB → ∀ d, max (stA r) (stB q) + d ≤ min (enA r) (enB q) → hc v (max (stA r) (stB q) + d) r q = hc v (max (stA r) (stB q)) r q := fun v hv r q hr hq d => by
    have w1 := a1 r hr
    have w2 := b1 q hq
    induction d with
    | zero => intro _; rw [Nat.add_zero]
    | succ d ih =>
      intro hd
      rw [← ih (by omega)]
      have h9 := hstep v hv (max (stA r) (stB q) + d) (by omega) r q hr hq
      rw [← Nat.add_assoc]
      generalize hk9 : max (stA r) (stB q) + d = k at h9 ⊢
      rcases so_ta (Lf := Lf) (k := k) with ⟨q0, q1, q2⟩ | ⟨q0, q1, q2⟩
      · rw [q1, q2, if_pos (by omega), if_pos (by omega)] at h9
        exact h9.symm
      · rw [q1, q2, if_pos (by omega), if_pos (by omega)] at h9
        exact h9
  have hnov : ∀ v, Heq n fr sA sB Lf TA TB v → ∀ r q, r < RA → q < RB → vdm Lf (stA r) (enA r) (stB q) (enB q) = false → hc v (max (stA r) (stB q)) r q = 0 := fun v hv r q hr hq hn => by
    have w1 := a1 r hr
    have w2 := b1 q hq
    by_cases l : max (stA r) (stB q) ≤ min (enA r) (enB q)
    · have hn9 : ¬ (max (stA r) (stB q) ≤ min (enA r) (enB q) ∧ (stA r = stB q ∨ (Lf (max (stA r) (stB q) - 1) = true ↔ stA r < stB q)) ∧ (enA r = enB q ∨ (Lf (min (enA r) (enB q)) = true ↔ enA r < enB q))) := fun z => by
        have := vdm_t.mpr z
        rw [hn] at this
        exact absurd this (by decide)
      by_cases l2 : stA r = stB q ∨ (Lf (max (stA r) (stB q) - 1) = true ↔ stA r < stB q)
      · have l3 : ¬ (enA r = enB q ∨ (Lf (min (enA r) (enB q)) = true ↔ enA r < enB q)) := fun z => hn9 ⟨l, l2, z⟩
        have hcc := hconst v hv r q hr hq (min (enA r) (enB q) - max (stA r) (stB q)) (by omega)
        rw [show max (stA r) (stB q) + (min (enA r) (enB q) - max (stA r) (stB q)) = min (enA r) (enB q) by omega] at hcc
        rw [← hcc]
        have h9 := hstep v hv (min (enA r) (enB q)) (by omega) r q hr hq
        generalize hk : min (enA r) (enB q) = k at h9 l3 ⊢
        rcases so_ta (Lf := Lf) (k := k) with ⟨q0, q1, q2⟩ | ⟨q0, q1, q2⟩
        · have : ¬ enA r < enB q := fun z => l3 (Or.inr ⟨fun _ => z, fun _ => q0⟩)
          rw [q1, q2, if_pos (by omega), if_pos (by omega), hc0 v (k + 1) r q hr (by unfold lv; omega)] at h9
          exact h9
        · have : enA r < enB q := Classical.byContradiction fun z => l3 (Or.inr ⟨fun w => absurd (q0.symm.trans w) (by decide), fun w => absurd w z⟩)
          rw [q1, q2, if_pos (by omega), if_pos (by omega), hc0 v (k + 1) r q hr (by unfold lv; omega)] at h9
          exact h9.symm
      · have hpos : 0 < max (stA r) (stB q) := by omega
        have h9 := hstep v hv (max (stA r) (stB q) - 1) (by omega) r q hr hq
        have ek : max (stA r) (stB q) = (max (stA r) (stB q) - 1) + 1 := by omega
        rw [ek]
        generalize max (stA r) (stB q) - 1 = k at h9 l2 ek ⊢
        rcases so_ta (Lf := Lf) (k := k) with ⟨q0, q1, q2⟩ | ⟨q0, q1, q2⟩
        · have : ¬ stA r < stB q := fun z => l2 (Or.inr ⟨fun _ => z, fun _ => q0⟩)
          rw [q1, q2, if_pos (by omega), if_pos (by omega), hc0 v k r q hr (by unfold lv; omega)] at h9
          exact h9.symm
        · have : stA r < stB q := Classical.byContradiction fun z => l2 (Or.inr ⟨fun w => absurd (q0.symm.trans w) (by decide), fun w => absurd w z⟩)
          rw [q1, q2, if_pos (by omega), if_pos (by omega), hc0 v k r q hr (by unfold lv; omega)] at h9
          exact h9
    · exact hc0 v _ r q hr (by unfold lv; omega)
  have hall : ∀ v, Heq n fr sA sB Lf TA TB v → ∀ k, k < n → ∀ r q, r < RA → q < RB → ∀ i z, hc v k r q * (y q k i * φ k r z) = (if vdm Lf (stA r) (enA r) (stB q) (enB q) = true then hc v (max (stA r) (stB q)) r q else 0) * (y q k i * φ k r z) := fun v hv k hk r q hr hq i z => by
    by_cases l : lv stA enA k r ∧ lv stB enB k q
    · have e9 : hc v k r q = hc v (max (stA r) (stB q)) r q := by
        obtain ⟨⟨l1, l2⟩, l3, l4⟩ := l
        have := hconst v hv r q hr hq (k - max (stA r) (stB q)) (by omega)
        rwa [show max (stA r) (stB q) + (k - max (stA r) (stB q)) = k by omega] at this
      rw [e9]
      cases hn : vdm Lf (stA r) (enA r) (stB q) (enB q) with
      | true => rw [if_pos rfl]
      | false => rw [hnov v hv r q hr hq hn, if_neg (by decide)]
    · by_cases l1 : lv stA enA k r
      · rw [b2 q k i hq (by have : ¬ lv stB enB k q := fun w => l ⟨l1, w⟩; unfold lv at this; omega)]; grind
      · rw [f1 _ _ _ l1]; grind
  -- the maps of pairs are a basis
  have hI : Ind (RA * RB) (fun t => vd t = true) hm := by
    intro c c1 c2 t ht
    by_cases hv : vd t = true
    · obtain ⟨tr, tq⟩ := pair_lt ht
      have hv9 := vdm_t.mp hv
      have w1 := a1 _ tr
      have w2 := b1 _ tq
      let k := max (stA (t / RB)) (stB (t % RB))
      have hk : k < n := by show max _ _ < n; omega
      have lr : lv stA enA k (t / RB) := ⟨Nat.le_max_left _ _, by show max _ _ ≤ _; omega⟩
      have lq : lv stB enB k (t % RB) := ⟨Nat.le_max_right _ _, by show max _ _ ≤ _; omega⟩
      have h0' : hc (fun c' => su (RA * RB) (fun t => c t * hm t c')) k (t / RB) (t % RB) = 0 := by
        show su (sB k) (fun i => ψ k (t % RB) i * su (sA k) (fun z => su (RA * RB) (fun t => c t * hm t (fr k + (i * sA k + z))) * x (t / RB) k z)) = 0
        exact su_z _ (fun i _ => by rw [su_z _ (fun z _ => by rw [c2]; grind)]; grind)
      have h1' : hc (fun c' => su (RA * RB) (fun t => c t * hm t c')) k (t / RB) (t % RB) = su (RA * RB) (fun t' => c t' * (su (sB k) (fun i => ψ k (t % RB) i * y (t' % RB) k i) * su (sA k) (fun z => φ k (t' / RB) z * x (t / RB) k z))) := by
        show su (sB k) (fun i => ψ k (t % RB) i * su (sA k) (fun z => su (RA * RB) (fun t => c t * hm t (fr k + (i * sA k + z))) * x (t / RB) k z)) = _
        rw [su_cg (sB k) (g := fun i => su (RA * RB) (fun t' => c t' * (ψ k (t % RB) i * y (t' % RB) k i * su (sA k) (fun z => φ k (t' / RB) z * x (t / RB) k z)))) (fun i hi => by
          rw [su_cg (sA k) (g := fun z => su (RA * RB) (fun t' => c t' * (y (t' % RB) k i * (φ k (t' / RB) z * x (t / RB) k z)))) (fun z hz => by
            rw [← su_mulr]
            exact su_cg _ (fun t' _ => by rw [hmat t' k i z hk hi hz]; grind)), su_swap, ← su_mul]
          refine su_cg _ (fun t' _ => ?_)
          rw [su_mul, su_mul]; grind), su_swap]
        refine su_cg _ (fun t' _ => ?_)
        rw [su_mul, su_mulr]
      rw [h1', su_one ht _ (fun t' ht' hne => ?_)] at h0'
      · rw [dA k hk _ _ tr tr lr, dB k hk _ _ tq tq lq, if_pos rfl, if_pos rfl] at h0'
        grind
      · obtain ⟨tr', tq'⟩ := pair_lt ht'
        rw [dA k hk _ _ tr tr' lr]
        by_cases e : t' / RB = t / RB
        · have e2 : t' % RB ≠ t % RB := fun w => hne (by
            have u1 := Nat.div_add_mod t' RB
            have u2 := Nat.div_add_mod t RB
            rw [e, w] at u1
            omega)
          by_cases l : lv stB enB k (t' % RB)
          · rw [dB k hk _ _ tq' tq l, if_neg (Ne.symm e2)]; grind
          · rw [su_z (sB k) (fun i _ => by rw [b2 _ k i tq' (by unfold lv at l; omega)]; grind)]; grind
        · rw [if_neg e]; grind
    · exact c1 t hv
  refine ((hM.free h01).1).symm.trans ?_
  obtain ⟨e, g, g1, g2, g3, g4⟩ := fam_enum (RK.solInd (K := K) (w := fr n) (k := kr) (M := M) (H := H))
  refine dim_B inv h01 hI g3 (fun v => ?_)
  rw [← g4 v]
  constructor
  · rintro ⟨c, c1, c2⟩
    have hout : ∀ c', fr n ≤ c' → v c' = 0 := fun c' hc' => by
      rw [c2 c']
      exact su_z _ (fun t _ => by rw [hmout t c' hc']; grind)
    refine (hM.sols h01 v hout).mp ((hZ v hout).mpr ?_)
    intro k i j hk hi hj
    rw [su_cg (sA (ta Lf k)) (g := fun z => su (RA * RB) (fun t => c t * (TA k z j * hm t (fr (ta Lf k) + (i * sA (ta Lf k) + z))))) (fun z _ => by
      rw [c2, ← su_mul]
      exact su_cg _ (fun t _ => by grind)), su_swap (sA (ta Lf k)), su_cg (sB (so Lf k)) (g := fun z => su (RA * RB) (fun t => c t * (TB k i z * hm t (fr (so Lf k) + (z * sA (so Lf k) + j))))) (fun z _ => by
      rw [c2, ← su_mul]
      exact su_cg _ (fun t _ => by grind)), su_swap (sB (so Lf k))]
    refine su_cg (K := K) _ (fun t ht => ?_)
    rw [su_mul, su_mul]
    by_cases hv : vd t = true
    · rw [hmZ t ht hv k i j hk hi hj]
    · rw [c1 t hv]; grind
  · intro hv
    have hout : ∀ c', fr n ≤ c' → v c' = 0 := fun c' hc' => by
      obtain ⟨c, c1, c2⟩ := hv
      rw [c2 c']
      refine su_z _ (fun t ht => ?_)
      by_cases q : fre H kr t = true
      · dsimp only
        rw [sol_free (i := c') (fre_t.mpr fun r hr e => by have := (hM r hr).1; omega)]
        unfold e1
        rw [if_neg (by omega)]; grind
      · rw [c1 t q]; grind
    have hz := (hZ v hout).mp ((hM.sols h01 v hout).mpr hv)
    refine ⟨fun t => if vd t = true then hc v (max (stA (t / RB)) (stB (t % RB))) (t / RB) (t % RB) else 0, fun t ht => if_neg ht, ?_⟩
    refine flat_ext h0 hfr hout (fun c' hc' => su_z _ (fun t _ => by rw [hmout t c' hc']; grind)) (fun k i z hk hi hz9 => ?_)
    rw [hback v k i z hk hi hz9, su_cg RA (g := fun r => su RB (fun q => (if vdm Lf (stA r) (enA r) (stB q) (enB q) = true then hc v (max (stA r) (stB q)) r q else 0) * (y q k i * φ k r z))) (fun r hr => su_cg RB (fun q hq => hall v hz k hk r q hr hq i z)), ← su_pair (fun r q => (if vdm Lf (stA r) (enA r) (stB q) (enB q) = true then hc v (max (stA r) (stB q)) r q else 0) * (y q k i * φ k r z)) RB RA]
    exact su_cg _ (fun t _ => by rw [hmat t k i z hk hi hz9])

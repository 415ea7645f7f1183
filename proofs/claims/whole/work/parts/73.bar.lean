/-! a laying over a field: parted into bars -/
def Fk {K : Type} [Lean.Grind.CommRing K] (D : Nat) (T : Nat → Nat → Nat → K) (k : Nat) (v : Nat → K) : Nat → K := fun i => su D (fun j => T k i j * v j)
theorem Fk_lin {K : Type} [Lean.Grind.CommRing K] {D : Nat} {T : Nat → Nat → Nat → K} {k : Nat} (u v : Nat → K) (t : K) (i : Nat) : Fk D T k (fun i => u i + t * v i) i = Fk D T k u i + t * Fk D T k v i := by
  unfold Fk
  rw [← su_mul, ← su_add]
  exact su_cg D (fun j _ => by grind)
theorem Fk_cg {K : Type} [Lean.Grind.CommRing K] {D : Nat} {T : Nat → Nat → Nat → K} {k : Nat} {u v : Nat → K} (h : ∀ i, u i = v i) (i : Nat) : Fk D T k u i = Fk D T k v i := su_cg D (fun j _ => by rw [h j])
theorem Fk_z {K : Type} [Lean.Grind.CommRing K] {D : Nat} {T : Nat → Nat → Nat → K} {k : Nat} {u : Nat → K} (h : ∀ i, u i = 0) (i : Nat) : Fk D T k u i = 0 := su_z D (fun j _ => by rw [h j]; grind)
theorem Fk_su {K : Type} [Lean.Grind.CommRing K] {D : Nat} {T : Nat → Nat → Nat → K} {k : Nat} (n : Nat) (c : Nat → K) (x : Nat → Nat → K) (i : Nat) : Fk D T k (fun i => su n (fun r => c r * x r i)) i = su n (fun r => c r * Fk D T k (x r) i) := by
  unfold Fk
  rw [su_cg D (g := fun j => su n (fun r => T k i j * (c r * x r j))) (fun j _ => (su_mul n _ _).symm), su_swap]
  refine su_cg n (fun r _ => ?_)
  rw [← su_mul]
  exact su_cg D (fun j _ => by grind)
def lv (st en : Nat → Nat) (k : Nat) : Nat → Prop := fun r => st r ≤ k ∧ k ≤ en r
def Bar {K : Type} [Lean.Grind.CommRing K] (n D : Nat) (s : Nat → Nat) (Lf : Nat → Bool) (T : Nat → Nat → Nat → K) (R : Nat) (st en : Nat → Nat) (x : Nat → Nat → Nat → K) : Prop :=
  (∀ r, r < R → st r ≤ en r ∧ en r < n) ∧
  (∀ r k i, r < R → (k < st r ∨ en r < k) → x r k i = 0) ∧
  (∀ r k i, r < R → s k ≤ i → x r k i = 0) ∧
  (∀ k, k < n → Ind R (lv st en k) (fun r => x r k)) ∧
  (∀ k, k < n → ∀ v : Nat → K, (∀ i, s k ≤ i → v i = 0) → Spn R (lv st en k) (fun r => x r k) v) ∧
  (∀ k, k + 1 < n → Lf k = false → ∀ r, r < R → st r ≤ k → ∀ i, Fk D T k (x r k) i = x r (k + 1) i) ∧
  (∀ k, k + 1 < n → Lf k = true → ∀ r, r < R → k + 1 ≤ en r → ∀ i, Fk D T k (x r (k + 1)) i = x r k i)
/-- a bar that starts at a may be added to one that starts at b -/
def Ad (Lf : Nat → Bool) (a b : Nat) : Prop := a = b ∨ (b < a ∧ Lf (a - 1) = true) ∨ (a < b ∧ Lf (b - 1) = false)
theorem Bar.op {K : Type} [Lean.Grind.CommRing K] {m D : Nat} {s : Nat → Nat} {Lf : Nat → Bool} {T : Nat → Nat → Nat → K} {R : Nat} {st en : Nat → Nat} {x : Nat → Nat → Nat → K} (h : Bar (m + 1) D s Lf T R st en x) {r q : Nat} (hr : r < R) (hq : q < R) (hrq : r ≠ q) (er : en r = m) (eq : en q = m) (ha : Ad Lf (st q) (st r)) (t : K) : Bar (m + 1) D s Lf T R st en (fun z k i => if z = r ∧ st r ≤ k then x r k i + t * x q k i else x z k i) := by
  obtain ⟨h1, h2, h3, h4, h5, h6, h7⟩ := h
  have hsame : ∀ k, k < m + 1 → (st r ≤ k ∧ st q ≤ k) → (fun z => fun i => if z = r ∧ st r ≤ k then x r k i + t * x q k i else x z k i) = up (fun z => x z k) r (fun i => x r k i + t * x q k i) := fun k _ hs => by
    funext z i
    by_cases e : z = r
    · subst e; rw [up_s, if_pos ⟨rfl, hs.1⟩]
    · rw [up_n _ _ e, if_neg (fun w => e w.1)]
  have hno : ∀ k, k < m + 1 → ¬ (st r ≤ k ∧ st q ≤ k) → ∀ z i, (if z = r ∧ st r ≤ k then x r k i + t * x q k i else x z k i) = x z k i := fun k _ hs z i => by
    by_cases e : z = r ∧ st r ≤ k
    · rw [if_pos e, e.1, h2 q k i hq (Or.inl (by omega))]
      grind
    · rw [if_neg e]
  refine ⟨h1, fun z k i hz hk => ?_, fun z k i hz hi => ?_, fun k hk => ?_, fun k hk v hv => ?_, fun k hk hl z hz hs i => ?_, fun k hk hl z hz hs i => ?_⟩
  · show (if z = r ∧ st r ≤ k then x r k i + t * x q k i else x z k i) = 0
    by_cases e : z = r ∧ st r ≤ k
    · rw [if_pos e]
      have e1 := e.1
      subst e1
      rw [h2 z k i hr hk, h2 q k i hq (Or.inr (by omega))]
      grind
    · rw [if_neg e]; exact h2 z k i hz hk
  · show (if z = r ∧ st r ≤ k then x r k i + t * x q k i else x z k i) = 0
    by_cases e : z = r ∧ st r ≤ k
    · rw [if_pos e, h3 r k i hr hi, h3 q k i hq hi]
      grind
    · rw [if_neg e]; exact h3 z k i hz hi
  · show Ind R (lv st en k) (fun z => fun i => if z = r ∧ st r ≤ k then x r k i + t * x q k i else x z k i)
    by_cases e : st r ≤ k ∧ st q ≤ k
    · rw [hsame k hk e]
      exact (h4 k hk).op (x := fun z => x z k) hr hq ⟨e.2, by omega⟩ hrq t
    · exact (h4 k hk).cgx (fun z i _ _ => hno k hk e z i)
  · show Spn R (lv st en k) (fun z => fun i => if z = r ∧ st r ≤ k then x r k i + t * x q k i else x z k i) v
    by_cases e : st r ≤ k ∧ st q ≤ k
    · rw [hsame k hk e]
      exact (h5 k hk v hv).op (x := fun z => x z k) hr hq ⟨e.2, by omega⟩ hrq t
    · exact (h5 k hk v hv).cgx (fun z i _ _ => hno k hk e z i)
  · show Fk D T k (fun i => if z = r ∧ st r ≤ k then x r k i + t * x q k i else x z k i) i = (if z = r ∧ st r ≤ k + 1 then x r (k + 1) i + t * x q (k + 1) i else x z (k + 1) i)
    by_cases e : z = r
    · subst e
      rw [if_pos ⟨rfl, by omega⟩, Fk_cg (v := fun i => x z k i + t * x q k i) (fun i => by rw [if_pos ⟨rfl, hs⟩]), Fk_lin (x z k) (x q k), h6 k hk hl z hr hs]
      have : Fk D T k (x q k) i = x q (k + 1) i := by
        by_cases l : st q ≤ k
        · exact h6 k hk hl q hq l i
        · rw [Fk_z (fun i => h2 q k i hq (Or.inl (by omega)))]
          by_cases l2 : st q = k + 1
          · exfalso
            rcases ha with a | ⟨a, b⟩ | ⟨a, b⟩
            · omega
            · rw [l2, show k + 1 - 1 = k by omega, hl] at b
              exact absurd b (by decide)
            · omega
          · exact (h2 q (k + 1) i hq (Or.inl (by omega))).symm
      rw [this]
    · rw [if_neg (fun w => e w.1), Fk_cg (v := x z k) (fun i => by rw [if_neg (fun w => e w.1)])]
      exact h6 k hk hl z hz hs i
  · show Fk D T k (fun i => if z = r ∧ st r ≤ k + 1 then x r (k + 1) i + t * x q (k + 1) i else x z (k + 1) i) i = (if z = r ∧ st r ≤ k then x r k i + t * x q k i else x z k i)
    by_cases e : z = r ∧ st r ≤ k + 1
    · obtain ⟨e1, e2⟩ := e
      subst e1
      rw [Fk_cg (v := fun i => x z (k + 1) i + t * x q (k + 1) i) (fun i => by rw [if_pos ⟨rfl, e2⟩]), Fk_lin (x z (k + 1)) (x q (k + 1)), h7 k hk hl z hr hs, h7 k hk hl q hq (by omega)]
      by_cases l : st z ≤ k
      · rw [if_pos ⟨rfl, l⟩]
      · rw [if_neg (fun w => l w.2)]
        have : x q k i = 0 := by
          refine h2 q k i hq (Or.inl ?_)
          rcases ha with a | ⟨a, b⟩ | ⟨a, b⟩
          · omega
          · omega
          · rw [show st z - 1 = k by omega, hl] at b
            exact absurd b (by decide)
        rw [this]
        grind
    · rw [Fk_cg (v := x z (k + 1)) (fun i => by rw [if_neg e]), if_neg (fun w => e ⟨w.1, by omega⟩)]
      exact h7 k hk hl z hz hs i
/-! bringing the bars that reach the last post into a place where a space U within is made of some of them -/
def Good {K : Type} [Lean.Grind.CommRing K] (U : (Nat → K) → Prop) (y : Nat → Nat → K) : List Nat → Prop
  | [] => True
  | r :: L => (U (y r) ∨ ∀ c : Nat → K, ¬ U (fun i => y r i + sl L (fun q => c q * y q i))) ∧ Good U y L
theorem Good.cg {K : Type} [Lean.Grind.CommRing K] {U : (Nat → K) → Prop} {y z : Nat → Nat → K} : ∀ L : List Nat, (∀ r ∈ L, z r = y r) → Good U y L → Good U z L
  | [], _, _ => trivial
  | r :: L, e, h => by
    refine ⟨?_, Good.cg L (fun q hq => e q (by simp [hq])) h.2⟩
    rw [e r (by simp)]
    refine h.1.imp id (fun g c => ?_)
    have := g c
    rwa [show (fun i => y r i + sl L (fun q => c q * z q i)) = (fun i => y r i + sl L (fun q => c q * y q i)) from funext fun i => by rw [sl_cg L (fun q hq => by rw [e q (by simp [hq])])]]
theorem Good.only {K : Type} [Lean.Grind.CommRing K] (inv : ∀ x : K, x ≠ 0 → ∃ y, x * y = 1) {U : (Nat → K) → Prop} (hU : ∀ u v t, U u → U v → U (fun i => u i + t * v i)) {y : Nat → Nat → K} (c : Nat → K) : ∀ L : List Nat, Good U y L → U (fun i => sl L (fun r => c r * y r i)) → ∀ r ∈ L, ¬ U (y r) → c r = 0
  | [], _, _ => fun r hr => absurd hr (by simp)
  | a :: L, h, hu => by
    have hz : U (fun _ => 0) := by
      have := hU _ _ (-1) hu hu
      rwa [show (fun i => sl (a :: L) (fun r => c r * y r i) + -1 * sl (a :: L) (fun r => c r * y r i)) = (fun _ => (0 : K)) from funext fun i => by grind] at this
    have main : (c a ≠ 0 → U (y a)) ∧ U (fun i => sl L (fun r => c r * y r i)) := by
      by_cases e : c a = 0
      · refine ⟨fun q => absurd e q, ?_⟩
        rwa [show (fun i => sl (a :: L) (fun r => c r * y r i)) = (fun i => sl L (fun r => c r * y r i)) from funext fun i => by simp only [sl]; rw [e]; grind] at hu
      · obtain ⟨t, ht⟩ := inv _ e
        have h1 : U (y a) := by
          refine h.1.resolve_right fun g => g (fun q => t * c q) ?_
          have := hU _ _ t hz hu
          rwa [show (fun i => (0 : K) + t * sl (a :: L) (fun r => c r * y r i)) = (fun i => y a i + sl L (fun q => t * c q * y q i)) from funext fun i => by
            simp only [sl]
            rw [sl_cg L (f := fun q => t * c q * y q i) (g := fun q => t * (c q * y q i)) (fun q _ => by grind), sl_mul]
            grind] at this
        refine ⟨fun _ => h1, ?_⟩
        have := hU _ _ (-(c a)) hu h1
        rwa [show (fun i => sl (a :: L) (fun r => c r * y r i) + -(c a) * y a i) = (fun i => sl L (fun r => c r * y r i)) from funext fun i => by simp only [sl]; grind] at this
    intro r hr hn
    rcases List.mem_cons.mp hr with e | e
    · subst e
      exact Classical.byContradiction fun q => hn (main.1 q)
    · exact Good.only inv hU c L h.2 main.2 r e hn
theorem Bar.add {K : Type} [Lean.Grind.CommRing K] {m D : Nat} {s : Nat → Nat} {Lf : Nat → Bool} {T : Nat → Nat → Nat → K} {R : Nat} {st en : Nat → Nat} {r : Nat} (hr : r < R) (er : en r = m) (c : Nat → K) : ∀ (L : List Nat) (x : Nat → Nat → Nat → K), Bar (m + 1) D s Lf T R st en x → (∀ q ∈ L, q < R ∧ en q = m ∧ r ≠ q ∧ Ad Lf (st q) (st r)) → ∃ x', Bar (m + 1) D s Lf T R st en x' ∧ (∀ q, q ≠ r → x' q = x q) ∧ ∀ i, x' r m i = x r m i + sl L (fun q => c q * x q m i)
  | [], x, h, _ => ⟨x, h, fun _ _ => rfl, fun i => by simp only [sl]; grind⟩
  | a :: L, x, h, hL => by
    obtain ⟨x1, h1, h2, h3⟩ := Bar.add hr er c L x h (fun q hq => hL q (by simp [hq]))
    obtain ⟨a1, a2, a3, a4⟩ := hL a (by simp)
    refine ⟨_, h1.op hr a1 a3 er a2 a4 (c a), fun q hq => ?_, fun i => ?_⟩
    · funext k i
      show (if q = r ∧ st r ≤ k then x1 r k i + c a * x1 a k i else x1 q k i) = x q k i
      rw [if_neg (fun w => hq w.1), h2 q hq]
    · have hs := (h.1 r hr).1
      show (if r = r ∧ st r ≤ m then x1 r m i + c a * x1 a m i else x1 r m i) = _
      rw [if_pos ⟨rfl, by omega⟩, h3 i, h2 a (Ne.symm a3)]
      simp only [sl]
      grind
theorem Bar.elim {K : Type} [Lean.Grind.CommRing K] {m D : Nat} {s : Nat → Nat} {Lf : Nat → Bool} {T : Nat → Nat → Nat → K} {R : Nat} {st en : Nat → Nat} (U : (Nat → K) → Prop) : ∀ (L : List Nat) (x : Nat → Nat → Nat → K), Bar (m + 1) D s Lf T R st en x → L.Nodup → (∀ q ∈ L, q < R ∧ en q = m) → L.Pairwise (fun r q => Ad Lf (st q) (st r)) → ∃ x', Bar (m + 1) D s Lf T R st en x' ∧ (∀ q, q ∉ L → x' q = x q) ∧ Good U (fun q => x' q m) L
  | [], x, h, _, _, _ => ⟨x, h, fun _ _ => rfl, trivial⟩
  | r :: L, x, h, hn, hL, hp => by
    rw [List.nodup_cons] at hn
    rw [List.pairwise_cons] at hp
    obtain ⟨x1, h1, h2, h3⟩ := Bar.elim U L x h hn.2 (fun q hq => hL q (by simp [hq])) hp.2
    by_cases e : ∃ c : Nat → K, U (fun i => x1 r m i + sl L (fun q => c q * x1 q m i))
    · obtain ⟨c, hc⟩ := e
      obtain ⟨a1, a2⟩ := hL r (by simp)
      obtain ⟨x2, g1, g2, g3⟩ := Bar.add a1 a2 c L x1 h1 (fun q hq => ⟨(hL q (by simp [hq])).1, (hL q (by simp [hq])).2, fun z => hn.1 (z ▸ hq), hp.1 q hq⟩)
      refine ⟨x2, g1, fun q hq => ?_, ?_, h3.cg L (fun q hq => ?_)⟩
      · rw [List.mem_cons] at hq
        rw [g2 q (fun z => hq (Or.inl z)), h2 q (fun z => hq (Or.inr z))]
      · left
        rwa [show (fun i => x1 r m i + sl L (fun q => c q * x1 q m i)) = x2 r m from funext fun i => (g3 i).symm] at hc
      · show x2 q m = x1 q m
        rw [g2 q (fun z => hn.1 (z ▸ hq))]
    · exact ⟨x1, h1, fun q hq => h2 q (fun z => hq (by simp [z])), Or.inr (fun c hc => e ⟨c, hc⟩), h3⟩

/-! through: from the sections to what is glued -/
def so (Lf : Nat → Bool) (k : Nat) : Nat := if Lf k = true then k + 1 else k
def ta (Lf : Nat → Bool) (k : Nat) : Nat := if Lf k = true then k else k + 1
theorem so_ta {Lf : Nat → Bool} {k : Nat} : (Lf k = true ∧ so Lf k = k + 1 ∧ ta Lf k = k) ∨ (Lf k = false ∧ so Lf k = k ∧ ta Lf k = k + 1) := by
  unfold so ta
  cases Lf k
  · exact Or.inr ⟨rfl, rfl, rfl⟩
  · exact Or.inl ⟨rfl, rfl, rfl⟩
theorem Bar.cfF {K : Type} [Lean.Grind.CommRing K] {n D : Nat} {s : Nat → Nat} {Lf : Nat → Bool} {T : Nat → Nat → Nat → K} {R : Nat} {st en : Nat → Nat} {x : Nat → Nat → Nat → K} (h : Bar n D s Lf T R st en x) {φ : Nat → Nat → Nat → K} (f1 : ∀ k r i, ¬ lv st en k r → φ k r i = 0) (f2 : ∀ k, k < n → ∀ v : Nat → K, (∀ i, s k ≤ i → v i = 0) → ∀ j, v j = su R (fun r => su (s k) (fun i => φ k r i * v i) * x r k j)) (f3 : ∀ k, k < n → ∀ c : Nat → K, (∀ r, ¬ lv st en k r → c r = 0) → ∀ r, r < R → su (s k) (fun i => φ k r i * su R (fun q => c q * x q k i)) = c r) {k : Nat} (hk : k + 1 < n) {u : Nat → K} (hu : ∀ i, s (so Lf k) ≤ i → u i = 0) {r : Nat} (hr : r < R) (a : lv st en k r) (b : lv st en (k + 1) r) : su (s (ta Lf k)) (fun i => φ (ta Lf k) r i * Fk D T k u i) = su (s (so Lf k)) (fun i => φ (so Lf k) r i * u i) := by
  obtain ⟨h1, h2, h3, h4, h5, h6, h7⟩ := h
  have hso : so Lf k < n := by rcases so_ta (Lf := Lf) (k := k) with ⟨_, e, _⟩ | ⟨_, e, _⟩ <;> omega
  have hta : ta Lf k < n := by rcases so_ta (Lf := Lf) (k := k) with ⟨_, _, e⟩ | ⟨_, _, e⟩ <;> omega
  have hF : ∀ q i, q < R → lv st en (so Lf k) q → Fk D T k (x q (so Lf k)) i = x q (ta Lf k) i := fun q i hq hl => by
    rcases so_ta (Lf := Lf) (k := k) with ⟨e0, e1, e2⟩ | ⟨e0, e1, e2⟩
    · rw [e1] at hl ⊢; rw [e2]; exact h7 k hk e0 q hq hl.2 i
    · rw [e1] at hl ⊢; rw [e2]; exact h6 k hk e0 q hq hl.1 i
  have e : ∀ i, Fk D T k u i = su R (fun q => (if st q ≤ ta Lf k ∧ ta Lf k ≤ en q then su (s (so Lf k)) (fun i => φ (so Lf k) q i * u i) else 0) * x q (ta Lf k) i) := fun i => by
    rw [Fk_cg (f2 _ hso u hu), Fk_su]
    refine su_cg R (fun q hq => ?_)
    by_cases l : lv st en (so Lf k) q
    · rw [hF q i hq l]
      by_cases l2 : st q ≤ ta Lf k ∧ ta Lf k ≤ en q
      · rw [if_pos l2]
      · rw [if_neg l2, h2 q (ta Lf k) i hq (by omega)]; grind
    · rw [su_z (s (so Lf k)) (fun i _ => by rw [f1 _ _ _ l]; grind)]
      by_cases l2 : st q ≤ ta Lf k ∧ ta Lf k ≤ en q
      · rw [if_pos l2]; grind
      · rw [if_neg l2]; grind
  rw [su_cg (s (ta Lf k)) (g := fun i => φ (ta Lf k) r i * su R (fun q => (if st q ≤ ta Lf k ∧ ta Lf k ≤ en q then su (s (so Lf k)) (fun i => φ (so Lf k) q i * u i) else 0) * x q (ta Lf k) i)) (fun i _ => by rw [e i])]
  rw [f3 _ hta (fun q => if st q ≤ ta Lf k ∧ ta Lf k ≤ en q then su (s (so Lf k)) (fun i => φ (so Lf k) q i * u i) else 0) (fun q hq => if_neg hq) r hr]
  rw [if_pos]
  rcases so_ta (Lf := Lf) (k := k) with ⟨_, _, e2⟩ | ⟨_, _, e2⟩
  · rw [e2]; exact a
  · rw [e2]; exact b
def em {K : Type} [Lean.Grind.CommRing K] (fr s : Nat → Nat) (k : Nat) (u : Nat → K) : Nat → K := fun c => if fr k ≤ c ∧ c < fr k + s k then u (c - fr k) else 0
theorem em_lin {K : Type} [Lean.Grind.CommRing K] {fr s : Nat → Nat} {k : Nat} (u v : Nat → K) (t : K) (c : Nat) : em fr s k (fun i => u i + t * v i) c = em fr s k u c + t * em fr s k v c := by
  unfold em
  by_cases h : fr k ≤ c ∧ c < fr k + s k
  · rw [if_pos h, if_pos h, if_pos h]
  · rw [if_neg h, if_neg h, if_neg h]; grind
theorem em_su {K : Type} [Lean.Grind.CommRing K] {fr s : Nat → Nat} {k : Nat} (n : Nat) (a : Nat → K) (y : Nat → Nat → K) (c : Nat) : em fr s k (fun i => su n (fun j => a j * y j i)) c = su n (fun j => a j * em fr s k (y j) c) := by
  unfold em
  by_cases h : fr k ≤ c ∧ c < fr k + s k
  · rw [if_pos h]
    exact su_cg n (fun j _ => by rw [if_pos h])
  · rw [if_neg h]
    exact (su_z n (fun j _ => by rw [if_neg h]; grind)).symm
theorem em_cg {K : Type} [Lean.Grind.CommRing K] {fr s : Nat → Nat} {k : Nat} {u v : Nat → K} (h : ∀ i, u i = v i) (c : Nat) : em fr s k u c = em fr s k v c := by
  unfold em
  rw [h]
def lam {K : Type} [Lean.Grind.CommRing K] (fr s : Nat → Nat) (φ : Nat → Nat → Nat → K) (a b r : Nat) (v : Nat → K) : K := su (b + 1) (fun k => if a ≤ k then su (s k) (fun i => φ k r i * v (fr k + i)) else 0)
theorem lam_su {K : Type} [Lean.Grind.CommRing K] {fr s : Nat → Nat} {φ : Nat → Nat → Nat → K} {a b r : Nat} (n : Nat) (c : Nat → K) (y : Nat → Nat → K) : lam fr s φ a b r (fun i => su n (fun j => c j * y j i)) = su n (fun j => c j * lam fr s φ a b r (y j)) := by
  unfold lam
  rw [su_cg n (g := fun j => su (b + 1) (fun k => c j * (if a ≤ k then su (s k) (fun i => φ k r i * y j (fr k + i)) else 0))) (fun j _ => (su_mul _ _ _).symm), su_swap]
  refine su_cg (b + 1) (fun k _ => ?_)
  by_cases h : a ≤ k
  · rw [if_pos h, su_cg n (g := fun j => su (s k) (fun i => φ k r i * (c j * y j (fr k + i)))) (fun j _ => by
      rw [if_pos h, ← su_mul]
      exact su_cg (s k) (fun i _ => by grind)), su_swap]
    exact su_cg (s k) (fun i _ => (su_mul n _ _).symm)
  · rw [if_neg h]
    exact (su_z n (fun j _ => by rw [if_neg h]; grind)).symm
theorem lam_lin {K : Type} [Lean.Grind.CommRing K] {fr s : Nat → Nat} {φ : Nat → Nat → Nat → K} {a b r : Nat} (u v : Nat → K) (t : K) : lam fr s φ a b r (fun i => u i + t * v i) = lam fr s φ a b r u + t * lam fr s φ a b r v := by
  unfold lam
  rw [← su_mul, ← su_add]
  refine su_cg (b + 1) (fun k _ => ?_)
  by_cases h : a ≤ k
  · rw [if_pos h, if_pos h, if_pos h, ← su_mul, ← su_add]
    exact su_cg (s k) (fun i _ => by grind)
  · rw [if_neg h, if_neg h, if_neg h]; grind
theorem lam_cg {K : Type} [Lean.Grind.CommRing K] {fr s : Nat → Nat} {φ : Nat → Nat → Nat → K} {a b r : Nat} {u v : Nat → K} (h : ∀ c, u c = v c) : lam fr s φ a b r u = lam fr s φ a b r v := by
  have : u = v := funext h
  rw [this]
theorem fr_mono {fr s : Nat → Nat} {a b : Nat} (hfr : ∀ k, a ≤ k → k ≤ b → fr (k + 1) = fr k + s k) : ∀ k j, a ≤ k → k < j → j ≤ b + 1 → fr k + s k ≤ fr j := by
  intro k j hk hj hb
  obtain ⟨d, rfl⟩ : ∃ d, j = k + 1 + d := ⟨j - (k + 1), by omega⟩
  clear hj
  induction d with
  | zero => rw [Nat.add_zero, hfr k hk (by omega)]; omega
  | succ d ih =>
    have := ih (by omega)
    rw [← Nat.add_assoc, hfr (k + 1 + d) (by omega) (by omega)]
    omega
theorem lam_em {K : Type} [Lean.Grind.CommRing K] {fr s : Nat → Nat} {φ : Nat → Nat → Nat → K} {a b r : Nat} (hfr : ∀ k, a ≤ k → k ≤ b → fr (k + 1) = fr k + s k) {k : Nat} (ha : a ≤ k) (hb : k ≤ b) (u : Nat → K) : lam fr s φ a b r (em fr s k u) = su (s k) (fun i => φ k r i * u i) := by
  unfold lam
  rw [su_one (show k < b + 1 by omega) _ (fun j hj hne => ?_), if_pos ha]
  · refine su_cg (s k) (fun i hi => ?_)
    unfold em
    rw [if_pos ⟨by omega, by omega⟩, show fr k + i - fr k = i by omega]
  · by_cases h : a ≤ j
    · rw [if_pos h]
      refine su_z (s j) (fun i hi => ?_)
      unfold em
      rw [if_neg]
      · grind
      · rintro ⟨z1, z2⟩
        rcases Nat.lt_or_ge j k with l | l
        · have := fr_mono hfr j k h l (by omega)
          omega
        · have := fr_mono hfr k j ha (by omega) (by omega)
          omega
    · rw [if_neg h]
theorem Bar.thr {K : Type} [Lean.Grind.CommRing K] (inv : ∀ x : K, x ≠ 0 → ∃ y, x * y = 1) (h01 : (1 : K) ≠ 0) {n D : Nat} {s : Nat → Nat} {Lf : Nat → Bool} {T : Nat → Nat → Nat → K} {R : Nat} {st en : Nat → Nat} {x : Nat → Nat → Nat → K} (h : Bar n D s Lf T R st en x) {a b : Nat} (hab : a ≤ b) (hb : b < n) {fr : Nat → Nat} (hfr : ∀ k, a ≤ k → k ≤ b → fr (k + 1) = fr k + s k)
    {m : Nat} {G : Nat → Nat → K} (hG1 : ∀ j, j < m → ∃ k y, a ≤ k ∧ k < b ∧ y < s (so Lf k) ∧ ∀ c, G j c = em fr s (so Lf k) (e1 y) c - em fr s (ta Lf k) (Fk D T k (e1 y)) c) (hG2 : ∀ k y, a ≤ k → k < b → y < s (so Lf k) → ∃ j, j < m ∧ ∀ c, G j c = em fr s (so Lf k) (e1 y) c - em fr s (ta Lf k) (Fk D T k (e1 y)) c)
    {kw : Nat} {Mw : Nat → Nat → K} (hw : Ind kw (fun _ => True) Mw) (hwG : ∀ v, Spn kw (fun _ => True) Mw v ↔ Spn m (fun _ => True) G v)
    {np : Nat} {Pr : Nat → Nat → K} (hP1 : ∀ j, j < np → ∃ Y : Nat → Nat → K, (∀ k i, a ≤ k → k ≤ b → s k ≤ i → Y k i = 0) ∧ (∀ k i, a ≤ k → k < b → Fk D T k (Y (so Lf k)) i = Y (ta Lf k) i) ∧ ∀ c, Pr j c = em fr s a (Y a) c)
    (hP2 : ∀ Y : Nat → Nat → K, (∀ k i, a ≤ k → k ≤ b → s k ≤ i → Y k i = 0) → (∀ k i, a ≤ k → k < b → Fk D T k (Y (so Lf k)) i = Y (ta Lf k) i) → Spn np (fun _ => True) Pr (em fr s a (Y a)))
    {k2 : Nat} {M2 : Nat → Nat → K} (h2i : Ind k2 (fun _ => True) M2) (h2 : ∀ v, Spn k2 (fun _ => True) M2 v ↔ Spn (kw + np) (fun _ => True) (cat kw Mw Pr) v) : k2 = kw + cov R st en a b := by
  obtain ⟨φ, f1, f2, f3⟩ := h.dual
  have cfF := fun {k : Nat} (hk : k + 1 < n) {u : Nat → K} (hu : ∀ i, s (so Lf k) ≤ i → u i = 0) {r : Nat} (hr : r < R) (la : lv st en k r) (lb : lv st en (k + 1) r) => h.cfF f1 f2 f3 hk hu hr la lb
  obtain ⟨g1, g2, g3, g4, g5, g6, g7⟩ := id h
  obtain ⟨e, g, c1, c2⟩ := cnt_enum (B := fun r => decide (st r ≤ a ∧ b ≤ en r)) R
  have ccov : cnt R (fun r => decide (st r ≤ a ∧ b ≤ en r)) = cov R st en a b := rfl
  rw [ccov] at c1 c2
  have hce : ∀ t, t < cov R st en a b → e t < R ∧ st (e t) ≤ a ∧ b ≤ en (e t) ∧ g (e t) = t := fun t ht => by
    obtain ⟨q1, q2, q3⟩ := c1 t ht
    simp only [decide_eq_true_eq] at q2
    exact ⟨q1, q2.1, q2.2, q3⟩
  -- what is glued
  have hrel : ∀ k, a ≤ k → k < b → ∀ u : Nat → K, (∀ i, s (so Lf k) ≤ i → u i = 0) → Spn m (fun _ => True) G (fun c => em fr s (so Lf k) u c - em fr s (ta Lf k) (Fk D T k u) c) := fun k ha hk u hu => by
    have := Spn.sum (R := m) (A := fun _ => True) (x := G) (y := fun y c => em fr s (so Lf k) (e1 y) c - em fr s (ta Lf k) (Fk D T k (e1 y)) c) u (s (so Lf k)) (fun y hy => by
      obtain ⟨j, j1, j2⟩ := hG2 k y ha hk hy
      exact (Spn.one j1 trivial).cg (fun c => (j2 c).symm))
    refine this.cg (fun c => ?_)
    rw [em_cg (su_e1 hu) c, em_su, em_cg (fun i => Fk_cg (su_e1 hu) i) c, em_cg (fun i => Fk_su _ _ _ i) c, em_su, ← su_sub]
    exact su_cg _ (fun j _ => by grind)
  have hlamG : ∀ r, r < R → st r ≤ a → b ≤ en r → ∀ j, j < m → lam fr s φ a b r (G j) = 0 := fun r hr h8 h9 j hj => by
    obtain ⟨k, y, k1, k2, k3, k4⟩ := hG1 j hj
    have hu : ∀ i, s (so Lf k) ≤ i → (e1 y : Nat → K) i = 0 := fun i hi => if_neg (by omega)
    rw [lam_cg (v := fun c => em fr s (so Lf k) (e1 y) c + (-1) * em fr s (ta Lf k) (Fk D T k (e1 y)) c) (fun c => by rw [k4 c]; grind), lam_lin]
    have e1' : a ≤ so Lf k ∧ so Lf k ≤ b := by rcases so_ta (Lf := Lf) (k := k) with ⟨_, q, _⟩ | ⟨_, q, _⟩ <;> omega
    have e2' : a ≤ ta Lf k ∧ ta Lf k ≤ b := by rcases so_ta (Lf := Lf) (k := k) with ⟨_, _, q⟩ | ⟨_, _, q⟩ <;> omega
    rw [lam_em hfr e1'.1 e1'.2, lam_em hfr e2'.1 e2'.2, cfF (by omega) hu hr ⟨by omega, by omega⟩ ⟨by omega, by omega⟩]
    grind
  have hlamS : ∀ r, r < R → st r ≤ a → b ≤ en r → ∀ v, Spn m (fun _ => True) G v → lam fr s φ a b r v = 0 := fun r hr h8 h9 v hv => by
    obtain ⟨c, -, q2⟩ := hv
    rw [lam_cg q2, lam_su]
    exact su_z m (fun j hj => by rw [hlamG r hr h8 h9 j hj]; grind)
  have hdel : ∀ t t', t < cov R st en a b → t' < cov R st en a b → lam fr s φ a b (e t') (em fr s a (x (e t) a)) = if t = t' then 1 else 0 := fun t t' ht ht' => by
    obtain ⟨q1, q2, q3, q4⟩ := hce t ht
    obtain ⟨p1, p2, p3, p4⟩ := hce t' ht'
    rw [lam_em hfr (Nat.le_refl a) hab]
    have := f3 a (by omega) (e1 (e t)) (fun r hr => if_neg (fun z => hr (by rw [z]; exact ⟨q2, by omega⟩))) (e t') p1
    rw [su_cg (s a) (g := fun i => φ a (e t') i * x (e t) a i) (fun i _ => by
      rw [su_one q1 _ (fun q _ hne => by unfold e1; rw [if_neg hne]; grind)]
      unfold e1
      rw [if_pos rfl]; grind)] at this
    rw [this]
    unfold e1
    by_cases z : t = t'
    · subst z; rw [if_pos rfl, if_pos rfl]
    · rw [if_neg z, if_neg (fun y => z (by rw [← q4, ← p4, y]))]
  -- the family
  have hI : Ind (kw + cov R st en a b) (fun _ => True) (cat kw Mw (fun t => em fr s a (x (e t) a))) := by
    intro c _ hc
    have hsum : ∀ i, su kw (fun q => c q * Mw q i) + su (cov R st en a b) (fun t => c (kw + t) * em fr s a (x (e t) a) i) = 0 := fun i => by
      have := hc i
      rw [su_split, su_cg kw (g := fun q => c q * Mw q i) (fun q hq => by rw [cat_lo hq]), su_cg (cov R st en a b) (g := fun t => c (kw + t) * em fr s a (x (e t) a) i) (fun t ht => by rw [cat_hi])] at this
      exact this
    have hhi : ∀ t, t < cov R st en a b → c (kw + t) = 0 := fun t ht => by
      obtain ⟨p1, p2, p3, p4⟩ := hce t ht
      have h0 : lam fr s φ a b (e t) (fun i => su kw (fun q => c q * Mw q i) + 1 * su (cov R st en a b) (fun t => c (kw + t) * em fr s a (x (e t) a) i)) = 0 := by
        rw [lam_cg (v := fun _ => su 0 (fun _ => 0 * (0 : K))) (fun i => by have := hsum i; rw [su_0]; grind)]
        have := lam_su (fr := fr) (s := s) (φ := φ) (a := a) (b := b) (r := e t) 0 (fun _ => (0 : K)) (fun _ _ => (0 : K))
        rw [this]
        rfl
      rw [lam_lin (fun i => su kw (fun q => c q * Mw q i)), lam_su, lam_su, su_z kw (fun q hq => by rw [hlamS (e t) p1 p2 p3 _ ((hwG _).mp (Spn.one hq trivial))]; grind), su_one ht _ (fun t' ht' hne => by rw [hdel t' t ht' ht, if_neg hne]; grind), hdel t t ht ht, if_pos rfl] at h0
      grind
    have hlo := hw c (fun r q => absurd trivial q) (fun i => by
      have := hsum i
      rw [su_z (cov R st en a b) (fun t ht => by rw [hhi t ht]; grind)] at this
      grind)
    intro r hr
    by_cases q : r < kw
    · exact hlo r q
    · have := hhi (r - kw) (by omega)
      rwa [show kw + (r - kw) = r by omega] at this
  have hlo : ∀ v, Spn kw (fun _ => True) Mw v → Spn (kw + cov R st en a b) (fun _ => True) (cat kw Mw (fun t => em fr s a (x (e t) a))) v := fun v hv => hv.pad (fun _ _ _ => trivial) (fun r i hr => by rw [cat_lo hr])
  have hem : ∀ r, r < R → st r ≤ a → b ≤ en r → Spn (kw + cov R st en a b) (fun _ => True) (cat kw Mw (fun t => em fr s a (x (e t) a))) (em fr s a (x r a)) := fun r hr h8 h9 => by
    obtain ⟨q1, q2⟩ := c2 r hr (by simp only [decide_eq_true_eq]; exact ⟨h8, h9⟩)
    have := Spn.one (R := kw + cov R st en a b) (A := fun _ => True) (x := cat kw Mw (fun t => em fr s a (x (e t) a))) (r := kw + g r) (by omega) trivial
    rw [cat_hi, q2] at this
    exact this
  -- a bar that ends inside before an arrow to the right is glued to 0
  have hdie : ∀ r, r < R → st r ≤ a → en r < b → Lf (en r) = false → a ≤ en r → Spn m (fun _ => True) G (em fr s a (x r a)) := fun r hr h8 h9 hl hae => by
    have key : ∀ d, d ≤ en r - a → Spn m (fun _ => True) G (em fr s (en r - d) (x r (en r - d))) := by
      intro d
      induction d with
      | zero =>
        intro _
        have := hrel (en r) hae h9 (x r (en r)) (fun i hi => by
          rcases so_ta (Lf := Lf) (k := en r) with ⟨q, _, _⟩ | ⟨_, q, _⟩
          · rw [hl] at q; exact absurd q (by decide)
          · rw [q] at hi; exact g3 r _ i hr hi)
        rcases so_ta (Lf := Lf) (k := en r) with ⟨q, _, _⟩ | ⟨_, q, q2⟩
        · rw [hl] at q; exact absurd q (by decide)
        · rw [q, q2] at this
          refine this.cg (fun c => ?_)
          rw [Nat.sub_zero, em_cg (u := Fk D T (en r) (x r (en r))) (v := fun _ => 0) (fun i => by
            rw [g6 (en r) (by omega) hl r hr (g1 r hr).1 i]
            exact g2 r _ i hr (Or.inr (by omega)))]
          unfold em
          by_cases z : fr (en r + 1) ≤ c ∧ c < fr (en r + 1) + s (en r + 1)
          · rw [if_pos z]; grind
          · rw [if_neg z]; grind
      | succ d ih =>
        intro hd
        have ihd := ih (by omega)
        have e0 : en r - d = (en r - (d + 1)) + 1 := by omega
        have hk := hrel (en r - (d + 1)) (by omega) (by omega)
        rw [e0] at ihd
        generalize en r - (d + 1) = k at ihd hk e0
        rcases so_ta (Lf := Lf) (k := k) with ⟨q0, q1, q2⟩ | ⟨q0, q1, q2⟩
        · have := hk (x r (k + 1)) (fun i hi => by rw [q1] at hi; exact g3 r _ i hr hi)
          rw [q1, q2] at this
          refine (ihd.lin this (-1)).cg (fun c => ?_)
          rw [em_cg (u := x r k) (v := Fk D T k (x r (k + 1))) (fun i => (g7 k (by omega) q0 r hr (by omega) i).symm)]
          grind
        · have := hk (x r k) (fun i hi => by rw [q1] at hi; exact g3 r _ i hr hi)
          rw [q1, q2] at this
          refine (ihd.lin this 1).cg (fun c => ?_)
          rw [em_cg (u := x r (k + 1)) (v := Fk D T k (x r k)) (fun i => (g6 k (by omega) q0 r hr (by omega) i).symm)]
          grind
    have := key (en r - a) (Nat.le_refl _)
    rwa [show en r - (en r - a) = a by omega] at this
  -- a section holds no bar that ends inside before an arrow to the left
  have hsec : ∀ Y : Nat → Nat → K, (∀ k i, a ≤ k → k ≤ b → s k ≤ i → Y k i = 0) → (∀ k i, a ≤ k → k < b → Fk D T k (Y (so Lf k)) i = Y (ta Lf k) i) → ∀ r, r < R → st r ≤ a → a ≤ en r → en r < b → Lf (en r) = true → su (s a) (fun i => φ a r i * Y a i) = 0 := fun Y y1 y2 r hr h8 hae h9 hl => by
    have key : ∀ d, d ≤ en r - a → su (s (en r - d)) (fun i => φ (en r - d) r i * Y (en r - d) i) = 0 := by
      intro d
      induction d with
      | zero =>
        intro _
        rw [Nat.sub_zero]
        rcases so_ta (Lf := Lf) (k := en r) with ⟨q0, q1, q2⟩ | ⟨q0, _, _⟩
        · have hy := fun i => y2 (en r) i hae h9
          rw [q1, q2] at hy
          have hs1 : ∀ i, s (en r + 1) ≤ i → Y (en r + 1) i = 0 := fun i hi => y1 (en r + 1) i (by omega) (by omega) hi
          have e9 : ∀ i, Y (en r) i = su R (fun q => (if st q ≤ en r ∧ en r + 1 ≤ en q then su (s (en r + 1)) (fun i => φ (en r + 1) q i * Y (en r + 1) i) else 0) * x q (en r) i) := fun i => by
            rw [← hy i, Fk_cg (f2 (en r + 1) (by omega) (Y (en r + 1)) hs1), Fk_su]
            refine su_cg R (fun q hq => ?_)
            by_cases l : lv st en (en r + 1) q
            · rw [g7 (en r) (by omega) hl q hq l.2 i]
              by_cases l2 : st q ≤ en r
              · rw [if_pos ⟨l2, l.2⟩]
              · rw [if_neg (fun z => l2 z.1), g2 q (en r) i hq (Or.inl (by omega))]; grind
            · rw [su_z (s (en r + 1)) (fun i _ => by rw [f1 _ _ _ l]; grind)]
              by_cases l2 : st q ≤ en r ∧ en r + 1 ≤ en q
              · rw [if_pos l2]; grind
              · rw [if_neg l2]; grind
          rw [su_cg (s (en r)) (g := fun i => φ (en r) r i * su R (fun q => (if st q ≤ en r ∧ en r + 1 ≤ en q then su (s (en r + 1)) (fun i => φ (en r + 1) q i * Y (en r + 1) i) else 0) * x q (en r) i)) (fun i _ => by rw [e9 i])]
          rw [f3 (en r) (by omega) (fun q => if st q ≤ en r ∧ en r + 1 ≤ en q then su (s (en r + 1)) (fun i => φ (en r + 1) q i * Y (en r + 1) i) else 0) (fun q hq => if_neg (fun z => hq ⟨z.1, by omega⟩)) r hr]
          exact if_neg (by omega)
        · rw [hl] at q0; exact absurd q0 (by decide)
      | succ d ih =>
        intro hd
        have ihd := ih (by omega)
        have e0 : en r - d = (en r - (d + 1)) + 1 := by omega
        have hka : a ≤ en r - (d + 1) := by omega
        rw [e0] at ihd
        generalize en r - (d + 1) = k at ihd hka e0
        have hy := fun i => y2 k i hka (by omega)
        have hu : ∀ i, s (so Lf k) ≤ i → Y (so Lf k) i = 0 := fun i hi => y1 _ i (by rcases so_ta (Lf := Lf) (k := k) with ⟨_, q, _⟩ | ⟨_, q, _⟩ <;> omega) (by rcases so_ta (Lf := Lf) (k := k) with ⟨_, q, _⟩ | ⟨_, q, _⟩ <;> omega) hi
        have hc := cfF (k := k) (by omega) hu hr ⟨by omega, by omega⟩ ⟨by omega, by omega⟩
        rw [su_cg (s (ta Lf k)) (g := fun i => φ (ta Lf k) r i * Y (ta Lf k) i) (fun i _ => by rw [hy i])] at hc
        rcases so_ta (Lf := Lf) (k := k) with ⟨q0, q1, q2⟩ | ⟨q0, q1, q2⟩
        · rw [q1, q2] at hc; rw [hc]; exact ihd
        · rw [q1, q2] at hc; rw [← hc]; exact ihd
    have := key (en r - a) (Nat.le_refl _)
    rwa [show en r - (en r - a) = a by omega] at this
  have hPr : ∀ j, j < np → Spn (kw + cov R st en a b) (fun _ => True) (cat kw Mw (fun t => em fr s a (x (e t) a))) (Pr j) := fun j hj => by
    obtain ⟨Y, y1, y2, y3⟩ := hP1 j hj
    have hYa := f2 a (by omega) (Y a) (fun i hi => y1 a i (Nat.le_refl _) hab hi)
    have key : ∀ n, n ≤ R → Spn (kw + cov R st en a b) (fun _ => True) (cat kw Mw (fun t => em fr s a (x (e t) a))) (fun c => su n (fun r => su (s a) (fun i => φ a r i * Y a i) * em fr s a (x r a) c)) := by
      intro n
      induction n with
      | zero => intro _; exact Spn.zero
      | succ r ih =>
        intro hn
        have ih := ih (by omega)
        by_cases l : lv st en a r
        · by_cases l2 : b ≤ en r
          · exact ih.lin (hem r (by omega) l.1 l2) _
          · cases hl : Lf (en r) with
            | false => exact ih.lin (hlo _ ((hwG _).mpr (hdie r (by omega) l.1 (by omega) hl l.2))) _
            | true =>
              refine ih.cg (fun c => ?_)
              rw [su_s, hsec Y y1 y2 r (by omega) l.1 l.2 (by omega) hl]; grind
        · refine ih.cg (fun c => ?_)
          rw [su_s, su_z (s a) (fun i _ => by rw [f1 _ _ _ l]; grind)]; grind
    refine (key R (Nat.le_refl _)).cg (fun c => ?_)
    rw [y3 c, em_cg hYa, em_su]
  refine dim_eq inv h01 h2i hI (fun j hj => ?_) (fun j hj => (h2 _).mpr ?_)
  · refine Spn.le (fun q hq _ => ?_) ((h2 _).mp (Spn.one hj trivial))
    by_cases l : q < kw
    · rw [cat_lo l]; exact hlo _ (Spn.one l trivial)
    · rw [show q = kw + (q - kw) by omega, cat_hi]; exact hPr _ (by omega)
  · by_cases l : j < kw
    · rw [cat_lo l]
      have := Spn.one (R := kw + np) (A := fun _ => True) (x := cat kw Mw Pr) (r := j) (by omega) trivial
      rwa [cat_lo l] at this
    · rw [show j = kw + (j - kw) by omega, cat_hi]
      obtain ⟨q1, q2, q3, q4⟩ := hce (j - kw) (by omega)
      refine Spn.le (fun q hq _ => ?_) (hP2 (fun k => x (e (j - kw)) k) (fun k i _ _ hi => g3 _ k i q1 hi) (fun k i h8 h9 => ?_))
      · have := Spn.one (R := kw + np) (A := fun _ => True) (x := cat kw Mw Pr) (r := kw + q) (by omega) trivial
        rwa [cat_hi] at this
      · rcases so_ta (Lf := Lf) (k := k) with ⟨w0, w1, w2⟩ | ⟨w0, w1, w2⟩
        · rw [w1, w2]; exact g7 k (by omega) w0 _ q1 (by omega) i
        · rw [w1, w2]; exact g6 k (by omega) w0 _ q1 (by omega) i

/-! heaps of posts -/
def cb (h : Nat → Bool) : Nat → Nat
  | 0 => 0
  | f + 1 => cb h f + (if h f then 1 else 0)
def eb (h : Nat → Bool) : Nat → Nat → Nat
  | 0, _ => 0
  | f + 1, j => if h f = true ∧ cb h f = j then f else eb h f j
theorem cb_t {h : Nat → Bool} {f : Nat} (q : h f = true) : cb h (f + 1) = cb h f + 1 := by rw [cb, if_pos q]
theorem cb_f {h : Nat → Bool} {f : Nat} (q : h f = false) : cb h (f + 1) = cb h f := by rw [cb, if_neg (by rw [q]; decide), Nat.add_zero]
theorem cb_le (h : Nat → Bool) : ∀ f, cb h f ≤ f
  | 0 => Nat.le_refl _
  | f + 1 => by
    have := cb_le h f
    rw [cb]; split <;> omega
theorem cb_mono (h : Nat → Bool) {f g : Nat} (q : f ≤ g) : cb h f ≤ cb h g := by
  induction g with
  | zero => rw [show f = 0 by omega]; exact Nat.le_refl _
  | succ g ih =>
    by_cases e : f = g + 1
    · rw [e]; exact Nat.le_refl _
    · have := ih (by omega)
      rw [cb]; split <;> omega
theorem eb_ok (h : Nat → Bool) : ∀ f j, j < cb h f → eb h f j < f ∧ h (eb h f j) = true ∧ cb h (eb h f j) = j
  | 0, j, q => by rw [cb] at q; omega
  | f + 1, j, q => by
    rw [eb]
    split
    · rename_i e
      exact ⟨by omega, e.1, e.2⟩
    · rename_i e
      have l : j < cb h f := by
        rw [cb] at q
        by_cases t : h f = true
        · rw [if_pos t] at q
          have : ¬ cb h f = j := fun g => e ⟨t, g⟩
          omega
        · rw [if_neg t] at q; omega
      have := eb_ok h f j l
      exact ⟨by omega, this.2⟩
theorem eb_at (h : Nat → Bool) : ∀ f i, i < f → h i = true → eb h f (cb h i) = i
  | 0, _, q, _ => by omega
  | f + 1, i, q, hi => by
    rw [eb]
    by_cases e : i = f
    · subst e; rw [if_pos ⟨hi, rfl⟩]
    · rw [if_neg]
      · exact eb_at h f i (by omega) hi
      · intro g
        have := cb_mono h (show i + 1 ≤ f by omega)
        rw [cb_t hi] at this
        omega
theorem eb_s (h : Nat → Bool) (f j : Nat) (q : j < cb h f) : eb h (f + 1) j = eb h f j := by
  rw [eb, if_neg]
  intro g
  omega
theorem eb_inc (h : Nat → Bool) (f : Nat) {i j : Nat} (q : i < j) (hj : j < cb h f) : eb h f i < eb h f j := by
  have a := eb_ok h f i (by omega)
  have b := eb_ok h f j hj
  by_cases l : eb h f i < eb h f j
  · exact l
  · have := cb_mono h (show eb h f j ≤ eb h f i by omega)
    omega
def DT (P : Nat → Nat) (h : Nat → Bool) (k : Nat) (a b : Nat → Int) : Int := det (cb h k) (VE P (eb h k) a b)
theorem DT_cg (P : Nat → Nat) (h : Nat → Bool) (k : Nat) {a b a' b' : Nat → Int} (q : ∀ i, i < k → h i = true → a i = a' i ∧ b i = b' i) : DT P h k a b = DT P h k a' b' :=
  det_cg _ (fun i j hi _ => by
    have e := eb_ok h k i hi
    have := q _ e.1 e.2.1
    show VM P a b _ _ = VM P a' b' _ _
    unfold VM
    rw [this.1, this.2])
theorem DT_hc (P : Nat → Nat) {h h' : Nat → Bool} (k : Nat) (a b : Nat → Int) (q : ∀ i, i < k → h i = h' i) : DT P h k a b = DT P h' k a b := by
  have c : ∀ f, f ≤ k → cb h f = cb h' f := fun f => by
    induction f with
    | zero => intro _; rfl
    | succ f ih => intro l; rw [cb, cb, ih (by omega), q f (by omega)]
  have d : ∀ f, f ≤ k → ∀ j, eb h f j = eb h' f j := fun f => by
    induction f with
    | zero => intro _ _; rfl
    | succ f ih => intro l j; rw [eb, eb, ih (by omega), q f (by omega), c f (by omega)]
  unfold DT
  rw [c k (Nat.le_refl _)]
  congr 1
  funext i j
  show VM P a b _ _ = VM P a b _ _
  rw [d k (Nat.le_refl _), d k (Nat.le_refl _)]
theorem DT_low (P : Nat → Nat) (h : Nat → Bool) (k : Nat) (a b : Nat → Int) : det (cb h k) (VE P (eb h (k + 1)) a b) = DT P h k a b :=
  det_cg _ (fun i j hi hj => by
    show VM P a b _ _ = VM P a b _ _
    rw [eb_s h k i hi, eb_s h k j hj])
theorem DT_out (P : Nat → Nat) (h : Nat → Bool) (k : Nat) (a b : Nat → Int) (q : h k = false) : DT P h (k + 1) a b = DT P h k a b := by
  rw [← DT_low P h k]
  unfold DT
  rw [cb_f q]
theorem eb_top {h : Nat → Bool} {k : Nat} (q : h k = true) : eb h (k + 1) (cb h k) = k := by rw [eb, if_pos ⟨q, rfl⟩]
theorem DT_in (P : Nat → Nat) (h : Nat → Bool) (k : Nat) (a b : Nat → Int) (hP : ∀ i, 0 < i → i ≤ k → P i < i) (q : h k = true) (hk : 0 < k) (qt : h (P k) = true) (ha : a k ≠ 0) :
    DT P h (k + 1) a b = DT P h k (uaT P k a b) (ubT P k a b) := by
  have ht := hP k hk (Nat.le_refl _)
  rw [← DT_low P h k (uaT P k a b) (ubT P k a b)]
  unfold DT
  rw [cb_t q]
  have e := eb_top q
  have r : cb h (P k) < cb h k := by
    have := cb_mono h (show P k + 1 ≤ k by omega)
    rw [cb_t qt] at this
    omega
  have s := VE_step P (eb h (k + 1)) a b (cb h k) (cb h (P k)) r (fun i j l1 l2 => eb_inc h (k + 1) l1 (by rw [cb_t q]; omega)) (fun i hi => by
    rw [e]
    by_cases l : i ≤ k
    · exact Or.inl (hP i hi l)
    · exact Or.inr l) (by rw [e, eb_at h (k + 1) (P k) (by omega) qt]) (by rw [e]; exact ha)
  rw [s, e]
theorem DT_alone (P : Nat → Nat) (h : Nat → Bool) (k : Nat) (a b : Nat → Int) (hP : ∀ i, 0 < i → i ≤ k → P i < i) (q : h k = true) (qt : k = 0 ∨ h (P k) = false) :
    DT P h (k + 1) a b = a k * DT P h k a b := by
  rw [← DT_low P h k]
  unfold DT
  rw [cb_t q]
  have e := eb_top q
  have s := VE_alone P (eb h (k + 1)) a b (cb h k) (fun i j l1 l2 => eb_inc h (k + 1) l1 (by rw [cb_t q]; omega)) (fun i hi => by
    rw [e]
    by_cases l : i ≤ k
    · exact Or.inl (hP i hi l)
    · exact Or.inr l) (fun r hr => by
      rw [e]
      intro g
      have o := eb_ok h (k + 1) r (by rw [cb_t q]; omega)
      rcases qt with z | z
      · subst z
        rw [cb] at hr
        omega
      · rw [g, o.2.1] at z
        cases z)
  rw [s, e]
theorem DT_0 (P : Nat → Nat) (h : Nat → Bool) (a b : Nat → Int) : DT P h 0 a b = 1 := rfl
/-! the kinds -/
def kd (P : Nat → Nat) : Nat → (Nat → Int) → (Nat → Int) → Int
  | 0, a, _ => if 0 < a 0 then 1 else if a 0 = 0 then 2 else 3
  | k + 1, a, b => if a (k + 1) ≤ 0 then 3 else kd P k (uaT P (k + 1) a b) (ubT P (k + 1) a b)
theorem kd_ok (P : Nat → Nat) (h : Nat → Bool) : ∀ (k : Nat), (∀ i, 0 < i → i ≤ k → P i < i) → ∀ (a b a' b' : Nat → Int),
    (∀ i, i ≤ k → 0 < b i ∧ 0 < b' i ∧ a i * b' i ≤ a' i * b i) → kd P k a b ≠ 3 → 0 ≤ DT P h (k + 1) a' b' ∧ (kd P k a b = 1 → 0 < DT P h (k + 1) a' b')
  | 0, hP, a, b, a', b', hI, hk => by
    obtain ⟨h1, h2, h3⟩ := hI 0 (Nat.le_refl _)
    rw [kd] at hk ⊢
    have hp : 0 ≤ a 0 := by
      by_cases l : 0 < a 0
      · omega
      · rw [if_neg l] at hk
        by_cases e : a 0 = 0
        · omega
        · rw [if_neg e] at hk; omega
    have g : 0 ≤ a' 0 := by
      have z : 0 ≤ a 0 * b' 0 := Int.mul_nonneg hp (by omega)
      by_cases l : 0 ≤ a' 0
      · exact l
      · have := Int.mul_neg_of_neg_of_pos (show a' 0 < 0 by omega) h1
        omega
    have g2 : 0 < a 0 → 0 < a' 0 := fun l => by
      have z := Int.mul_pos l h2
      by_cases e : a' 0 = 0
      · rw [e, Int.zero_mul] at h3; omega
      · omega
    by_cases q : h 0 = true
    · rw [DT_alone P h 0 a' b' hP q (Or.inl rfl), DT_0, Int.mul_one]
      refine ⟨g, fun e => g2 ?_⟩
      by_cases l : 0 < a 0
      · exact l
      · rw [if_neg l] at e
        split at e <;> omega
    · rw [DT_out P h 0 a' b' (by simpa using q), DT_0]
      exact ⟨by omega, fun _ => by omega⟩
  | k + 1, hP, a, b, a', b', hI, hk => by
    have hp : 0 < a (k + 1) := by
      rw [kd] at hk
      by_cases l : a (k + 1) ≤ 0
      · rw [if_pos l] at hk; omega
      · omega
    have ek : kd P (k + 1) a b = kd P k (uaT P (k + 1) a b) (ubT P (k + 1) a b) := by rw [kd, if_neg (by omega)]
    rw [ek] at hk ⊢
    obtain ⟨h1, h2, h3⟩ := hI (k + 1) (Nat.le_refl _)
    have ht := hP (k + 1) (by omega) (Nat.le_refl _)
    obtain ⟨t1, t2, t3⟩ := hI (P (k + 1)) (by omega)
    have hp' : 0 < a' (k + 1) := by
      have z := Int.mul_pos hp h2
      by_cases l : 0 < a' (k + 1)
      · exact l
      · have := Int.mul_nonneg (show 0 ≤ - a' (k + 1) by omega) (show 0 ≤ b (k + 1) by omega)
        rw [Int.neg_mul] at this
        omega
    have ub1 : ∀ i, i ≤ k → 0 < ubT P (k + 1) a b i := fun i hi => by
      unfold ubT
      split
      · exact Int.mul_pos (hI i (by omega)).1 hp
      · exact (hI i (by omega)).1
    have m1 := Int.mul_le_mul_of_nonneg_right t3 (show 0 ≤ a (k + 1) by omega)
    have same : ∀ i, i ≤ k → 0 < ubT P (k + 1) a b i ∧ 0 < b' i ∧ uaT P (k + 1) a b i * b' i ≤ a' i * ubT P (k + 1) a b i := fun i hi => by
      refine ⟨ub1 i hi, (hI i (by omega)).2.1, ?_⟩
      unfold uaT ubT
      by_cases e : i = P (k + 1)
      · rw [if_pos e, if_pos e, e]
        have z := Int.mul_pos (Int.mul_pos t1 h1) t2
        grind
      · rw [if_neg e, if_neg e]
        exact (hI i (by omega)).2.2
    by_cases q : h (k + 1) = true
    · by_cases qt : h (P (k + 1)) = true
      · rw [DT_in P h (k + 1) a' b' hP q (by omega) qt (by omega)]
        refine kd_ok P h k (fun i h1 h2 => hP i h1 (by omega)) _ _ _ _ (fun i hi => ⟨ub1 i hi, ?_, ?_⟩) hk
        · unfold ubT
          split
          · exact Int.mul_pos (hI i (by omega)).2.1 hp'
          · exact (hI i (by omega)).2.1
        · unfold uaT ubT
          by_cases e : i = P (k + 1)
          · rw [if_pos e, if_pos e, if_pos e, if_pos e, e]
            have m2 := Int.mul_le_mul_of_nonneg_right m1 (show 0 ≤ a' (k + 1) by omega)
            have m3 := Int.mul_le_mul_of_nonneg_right h3 (show 0 ≤ b (P (k + 1)) * b' (P (k + 1)) from Int.mul_nonneg (by omega) (by omega))
            grind
          · rw [if_neg e, if_neg e, if_neg e, if_neg e]
            exact (hI i (by omega)).2.2
      · rw [DT_alone P h (k + 1) a' b' hP q (Or.inr (by simpa using qt))]
        have := kd_ok P h k (fun i h1 h2 => hP i h1 (by omega)) _ _ a' b' same hk
        exact ⟨Int.mul_nonneg (by omega) this.1, fun e => Int.mul_pos hp' (this.2 e)⟩
    · rw [DT_out P h (k + 1) a' b' (by simpa using q)]
      exact kd_ok P h k (fun i h1 h2 => hP i h1 (by omega)) _ _ a' b' same hk
theorem kd_full (P : Nat → Nat) (h : Nat → Bool) : ∀ (k : Nat), (∀ i, 0 < i → i ≤ k → P i < i) → (∀ i, i ≤ k → h i = true) → ∀ (a b : Nat → Int), kd P k a b = 2 → DT P h (k + 1) a b = 0
  | 0, hP, hh, a, b, e => by
    rw [DT_alone P h 0 a b hP (hh 0 (Nat.le_refl _)) (Or.inl rfl), DT_0]
    rw [kd] at e
    split at e
    · omega
    · split at e <;> omega
  | k + 1, hP, hh, a, b, e => by
    rw [kd] at e
    split at e
    · omega
    · rename_i l
      have ht := hP (k + 1) (by omega) (Nat.le_refl _)
      rw [DT_in P h (k + 1) a b hP (hh _ (Nat.le_refl _)) (by omega) (hh _ (by omega)) (by omega)]
      exact kd_full P h k (fun i h1 h2 => hP i h1 (by omega)) (fun i hi => hh i (by omega)) _ _ e
theorem DT_none (P : Nat → Nat) (h : Nat → Bool) (a b : Nat → Int) : ∀ k, (∀ i, i < k → h i = false) → DT P h k a b = 1
  | 0, _ => rfl
  | k + 1, q => by rw [DT_out P h k a b (q k (by omega)), DT_none P h a b k (fun i hi => q i (by omega))]
theorem DT_pair (P : Nat → Nat) (h : Nat → Bool) (k : Nat) (a b : Nat → Int) (hk : 0 < k) (ht : P k < k) (hh : ∀ i, i ≤ k → h i = (i == k || i == P k)) (hz : a k = 0) : DT P h (k + 1) a b = - (b k * b (P k)) := by
  have c : cb h k = 1 := by
    have c1 : ∀ f, f ≤ k → cb h f = if P k < f then 1 else 0 := fun f => by
      induction f with
      | zero => intro _; rw [if_neg (by omega)]; rfl
      | succ f ih =>
        intro l
        rw [cb, ih (by omega), hh f (by omega)]
        by_cases e : f = P k
        · rw [if_neg (by omega), if_pos (by simp [e]), if_pos (by omega)]
        · rw [if_neg (show ¬ ((f == k || f == P k) = true) by simp; omega)]
          split <;> split <;> omega
    rw [c1 k (Nat.le_refl _), if_pos ht]
  have q : h k = true := by rw [hh k (Nat.le_refl _)]; simp
  have qt : h (P k) = true := by rw [hh _ (by omega)]; simp
  have e1 : eb h (k + 1) 1 = k := by have := eb_top q; rwa [c] at this
  have e0 : eb h (k + 1) 0 = P k := by
    have := eb_at h (k + 1) (P k) (by omega) qt
    have z : cb h (P k) = 0 := by
      have := cb_mono h (show P k + 1 ≤ k by omega)
      rw [cb_t qt] at this
      omega
    rwa [z] at this
  unfold DT
  rw [cb_t q, c, det_s, su_s, su_s, su_0, det_s, su_s, su_0, det_s, su_s, su_0]
  show 0 + VM P a b (eb h (k + 1) 1) (eb h (k + 1) 0) * (sg 1 * (0 + VM P a b (eb h (k + 1) 0) (eb h (k + 1) 1) * (sg 0 * 1))) + VM P a b (eb h (k + 1) 1) (eb h (k + 1) 1) * (sg 2 * (0 + VM P a b (eb h (k + 1) 0) (eb h (k + 1) 0) * (sg 0 * 1))) = _
  rw [e0, e1, show sg 1 = -1 from rfl, show sg 0 = 1 from rfl]
  have v1 : VM P a b k (P k) = - b k := by
    unfold VM ajT
    rw [if_neg (by omega), if_pos (by simp; omega)]
  have v2 : VM P a b (P k) k = - b (P k) := by
    unfold VM ajT
    rw [if_neg (by omega), if_pos (by simp; omega)]
  have v3 : VM P a b k k = 0 := by unfold VM; rw [if_pos rfl, hz]
  rw [v1, v2, v3]
  grind
theorem kd_wild (P : Nat → Nat) : ∀ (k : Nat), (∀ i, 0 < i → i ≤ k → P i < i) → ∀ (a b : Nat → Int), (∀ i, i ≤ k → 0 < b i) → kd P k a b = 3 → ∃ h : Nat → Bool, DT P h (k + 1) a b < 0
  | 0, hP, a, b, _, e => by
    refine ⟨fun _ => true, ?_⟩
    rw [DT_alone P _ 0 a b hP rfl (Or.inl rfl), DT_0]
    rw [kd] at e
    split at e
    · omega
    · split at e <;> omega
  | k + 1, hP, a, b, hb, e => by
    have ht := hP (k + 1) (by omega) (Nat.le_refl _)
    by_cases l : a (k + 1) < 0
    · refine ⟨fun i => i == k + 1, ?_⟩
      rw [DT_alone P _ (k + 1) a b hP (by simp) (Or.inr (by simp; omega)), DT_none P _ a b (k + 1) (fun i hi => by simp; omega)]
      omega
    · by_cases z : a (k + 1) = 0
      · refine ⟨fun i => (i == k + 1 || i == P (k + 1)), ?_⟩
        rw [DT_pair P _ (k + 1) a b (by omega) ht (fun i _ => rfl) z]
        have := Int.mul_pos (hb (k + 1) (Nat.le_refl _)) (hb (P (k + 1)) (by omega))
        omega
      · rw [kd, if_neg (by omega)] at e
        obtain ⟨h, hh⟩ := kd_wild P k (fun i h1 h2 => hP i h1 (by omega)) _ _ (fun i hi => by
          unfold ubT
          split
          · exact Int.mul_pos (hb i (by omega)) (by omega)
          · exact hb i (by omega)) e
        refine ⟨fun i => (i == k + 1 || h i), ?_⟩
        have hc : ∀ a b, DT P (fun i => (i == k + 1 || h i)) (k + 1) a b = DT P h (k + 1) a b := fun a b => DT_hc P (k + 1) a b (fun i hi => by
          show (i == k + 1 || h i) = h i
          rw [show (i == k + 1) = false from by simp; omega, Bool.false_or])
        have hpt : (P (k + 1) == k + 1 || h (P (k + 1))) = h (P (k + 1)) := by
          rw [show (P (k + 1) == k + 1) = false from by simp; omega, Bool.false_or]
        by_cases qt : h (P (k + 1)) = true
        · rw [DT_in P _ (k + 1) a b hP (by simp) (by omega) (hpt.trans qt) z, hc]
          exact hh
        · have qf : h (P (k + 1)) = false := by simpa using qt
          rw [DT_alone P _ (k + 1) a b hP (by simp) (Or.inr (hpt.trans qf)), hc]
          rw [DT_cg P h (k + 1) (a := uaT P (k + 1) a b) (b := ubT P (k + 1) a b) (a' := a) (b' := b) (fun i hi hh => by
            unfold uaT ubT
            by_cases e : i = P (k + 1)
            · rw [e, qf] at hh; cases hh
            · rw [if_neg e, if_neg e]; exact ⟨rfl, rfl⟩)] at hh
          exact Int.mul_neg_of_pos_of_neg (by omega) hh
/-- the heap of the bits of a number -/
def bt (H : Nat) (i : Nat) : Bool := H / 2 ^ i % 2 == 1
def hb : Nat → (Nat → Bool) → Nat
  | 0, _ => 0
  | n + 1, h => (if h 0 then 1 else 0) + 2 * hb n (fun i => h (i + 1))
theorem hb_lt : ∀ n h, hb n h < 2 ^ n
  | 0, _ => by rw [hb]; decide
  | n + 1, h => by
    rw [hb, Nat.pow_succ]
    have := hb_lt n (fun i => h (i + 1))
    split <;> omega
theorem hb_bt : ∀ n h i, i < n → bt (hb n h) i = h i
  | 0, _, _, q => by omega
  | n + 1, h, 0, _ => by
    unfold bt
    rw [hb, Nat.pow_zero, Nat.div_one]
    cases h 0
    · simp
    · simp
  | n + 1, h, i + 1, q => by
    have := hb_bt n (fun i => h (i + 1)) i (by omega)
    unfold bt at this ⊢
    rw [hb, Nat.pow_succ, Nat.mul_comm (2 ^ i) 2, ← Nat.div_div_eq_div_mul, show ((if h 0 then 1 else 0) + 2 * hb n (fun i => h (i + 1))) / 2 = hb n (fun i => h (i + 1)) from by split <;> omega]
    exact this
theorem bt_full (n i : Nat) (hi : i < n) : bt (2 ^ n - 1) i = true := by
  have : hb n (fun _ => true) = 2 ^ n - 1 := by
    clear hi
    induction n with
    | zero => rfl
    | succ n ih =>
      rw [hb, ih, Nat.pow_succ]
      have := Nat.pos_of_ne_zero (show 2 ^ n ≠ 0 from Nat.ne_of_gt (Nat.two_pow_pos n))
      simp
      omega
  rw [← this]
  exact hb_bt n _ i hi

/-! sums in a commutative ring -/
def su {K : Type} [Lean.Grind.CommRing K] (n : Nat) (f : Nat → K) : K := match n with
  | 0 => 0
  | n + 1 => su n f + f n
theorem su_0 {K : Type} [Lean.Grind.CommRing K] (f : Nat → K) : su 0 f = 0 := rfl
theorem su_s {K : Type} [Lean.Grind.CommRing K] (n : Nat) (f : Nat → K) : su (n + 1) f = su n f + f n := rfl
theorem su_cg {K : Type} [Lean.Grind.CommRing K] {f g : Nat → K} : ∀ n, (∀ i, i < n → f i = g i) → su n f = su n g
  | 0, _ => rfl
  | n + 1, h => by rw [su_s, su_s, su_cg n (fun i hi => h i (by omega)), h n (by omega)]
theorem su_z {K : Type} [Lean.Grind.CommRing K] {f : Nat → K} : ∀ n, (∀ i, i < n → f i = 0) → su n f = 0
  | 0, _ => rfl
  | n + 1, h => by rw [su_s, su_z n (fun i hi => h i (by omega)), h n (by omega)]; grind
theorem su_add {K : Type} [Lean.Grind.CommRing K] (n : Nat) (f g : Nat → K) : su n (fun i => f i + g i) = su n f + su n g := by
  induction n with
  | zero => simp only [su_0]; grind
  | succ n ih => simp only [su_s, ih]; grind
theorem su_sub {K : Type} [Lean.Grind.CommRing K] (n : Nat) (f g : Nat → K) : su n (fun i => f i - g i) = su n f - su n g := by
  induction n with
  | zero => simp only [su_0]; grind
  | succ n ih => simp only [su_s, ih]; grind
theorem su_mul {K : Type} [Lean.Grind.CommRing K] (n : Nat) (t : K) (f : Nat → K) : su n (fun i => t * f i) = t * su n f := by
  induction n with
  | zero => simp only [su_0]; grind
  | succ n ih => simp only [su_s, ih]; grind
theorem su_mulr {K : Type} [Lean.Grind.CommRing K] (n : Nat) (t : K) (f : Nat → K) : su n (fun i => f i * t) = su n f * t := by
  induction n with
  | zero => simp only [su_0]; grind
  | succ n ih => simp only [su_s, ih]; grind
theorem su_swap {K : Type} [Lean.Grind.CommRing K] (n m : Nat) (f : Nat → Nat → K) : su n (fun i => su m (fun j => f i j)) = su m (fun j => su n (fun i => f i j)) := by
  induction n with
  | zero => simp only [su_0]; exact (su_z m (fun _ _ => rfl)).symm
  | succ n ih => simp only [su_s, ih, su_add]
/-- one place taken out -/
theorem su_at {K : Type} [Lean.Grind.CommRing K] {n a : Nat} (ha : a < n) (f : Nat → K) : su n f = f a + su n (fun i => if i = a then 0 else f i) := by
  induction n with
  | zero => omega
  | succ n ih =>
    rw [su_s, su_s]
    by_cases e : a = n
    · subst e
      rw [if_pos rfl, su_cg a (f := fun i => if i = a then 0 else f i) (g := f) (fun i hi => if_neg (by omega))]
      grind
    · rw [ih (by omega), if_neg (by omega)]
      grind
theorem su_one {K : Type} [Lean.Grind.CommRing K] {n a : Nat} (ha : a < n) (f : Nat → K) (h : ∀ i, i < n → i ≠ a → f i = 0) : su n f = f a := by
  rw [su_at ha, su_z n (fun i hi => ?_)]
  · grind
  · by_cases e : i = a
    · rw [if_pos e]
    · rw [if_neg e]; exact h i hi e
theorem su_le {K : Type} [Lean.Grind.CommRing K] {f : Nat → K} {n m : Nat} (h : n ≤ m) (hz : ∀ i, n ≤ i → i < m → f i = 0) : su m f = su n f := by
  induction m with
  | zero => rw [show n = 0 by omega]
  | succ m ih =>
    by_cases e : n = m + 1
    · rw [e]
    · rw [su_s, ih (by omega) (fun i h1 h2 => hz i h1 (by omega)), hz m (by omega) (by omega)]
      grind
/-- sums over a list of places -/
def sl {K : Type} [Lean.Grind.CommRing K] (L : List Nat) (f : Nat → K) : K := match L with
  | [] => 0
  | a :: L => f a + sl L f
theorem sl_cg {K : Type} [Lean.Grind.CommRing K] {f g : Nat → K} : ∀ L : List Nat, (∀ a ∈ L, f a = g a) → sl L f = sl L g
  | [], _ => rfl
  | a :: L, h => by simp only [sl]; rw [h a (by simp), sl_cg L (fun b hb => h b (by simp [hb]))]
theorem sl_mul {K : Type} [Lean.Grind.CommRing K] (t : K) (f : Nat → K) : ∀ L : List Nat, sl L (fun i => t * f i) = t * sl L f
  | [] => by simp only [sl]; grind
  | a :: L => by simp only [sl]; rw [sl_mul t f L]; grind
theorem su_sl {K : Type} [Lean.Grind.CommRing K] {n : Nat} : ∀ (L : List Nat) (f : Nat → K), L.Nodup → (∀ a ∈ L, a < n) → (∀ i, i < n → i ∉ L → f i = 0) → su n f = sl L f
  | [], f, _, _, h => su_z n (fun i hi => h i hi (by simp))
  | a :: L, f, hn, hb, h => by
    rw [List.nodup_cons] at hn
    rw [su_at (hb a (by simp)) f, su_sl L _ hn.2 (fun b hb9 => hb b (by simp [hb9])) (fun i hi hni => ?_)]
    · simp only [sl]
      rw [sl_cg L (f := fun i => if i = a then 0 else f i) (g := f) (fun b hb9 => if_neg (fun e => hn.1 (by rw [← e]; exact hb9)))]
    · by_cases e : i = a
      · rw [if_pos e]
      · rw [if_neg e]; exact h i hi (by simp [e, hni])
/-- more unknowns than equations -/
theorem kern {K : Type} [Lean.Grind.CommRing K] (inv : ∀ x : K, x ≠ 0 → ∃ y, x * y = 1) (h01 : (1 : K) ≠ 0) : ∀ (m n : Nat) (a : Nat → Nat → K), n < m → ∃ c : Nat → K, (∃ j, j < m ∧ c j ≠ 0) ∧ ∀ i, i < n → su m (fun j => a i j * c j) = 0
  | 0, n, _, h => absurd h (Nat.not_lt_zero _)
  | m + 1, n, a, h => by
    by_cases hz : ∀ i, i < n → a i m = 0
    · refine ⟨fun j => if j = m then 1 else 0, ⟨m, by omega, by dsimp only; rw [if_pos rfl]; exact h01⟩, fun i hi => ?_⟩
      dsimp only
      rw [su_one (show m < m + 1 by omega) _ (fun j hj hne => by rw [if_neg hne]; grind), hz i hi]
      grind
    · obtain ⟨i0, hi0, hne⟩ : ∃ i, i < n ∧ a i m ≠ 0 := by
        refine Classical.byContradiction fun q => hz fun i hi => Classical.byContradiction fun z => q ⟨i, hi, z⟩
      obtain ⟨t, ht⟩ := inv _ hne
      obtain ⟨c, ⟨j, hj, hcj⟩, hc⟩ := kern inv h01 m (n - 1) (fun i j => a (if i < i0 then i else i + 1) j - a (if i < i0 then i else i + 1) m * t * a i0 j) (by omega)
      refine ⟨fun j => if j = m then - (t * su m (fun j => a i0 j * c j)) else c j, ⟨j, by omega, by dsimp only; rw [if_neg (by omega)]; exact hcj⟩, fun i hi => ?_⟩
      dsimp only
      rw [su_s, if_pos rfl, su_cg m (g := fun j => a i j * c j) (fun j hj => by rw [if_neg (by omega)])]
      by_cases e : i = i0
      · rw [e]
        grind
      · have key : su m (fun j => a i j * c j) - a i m * t * su m (fun j => a i0 j * c j) = 0 := by
          rw [← su_mul, ← su_sub]
          by_cases l : i < i0
          · have := hc i (by omega)
            rw [if_pos l] at this
            rw [← this]
            exact su_cg m (fun j _ => by grind)
          · have := hc (i - 1) (by omega)
            rw [if_neg (by omega), show i - 1 + 1 = i by omega] at this
            rw [← this]
            exact su_cg m (fun j _ => by grind)
        grind

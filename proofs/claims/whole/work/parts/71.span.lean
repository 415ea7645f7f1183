/-! families, spans, independence -/
def Spn {K : Type} [Lean.Grind.CommRing K] (R : Nat) (A : Nat → Prop) (x : Nat → Nat → K) (v : Nat → K) : Prop := ∃ c : Nat → K, (∀ r, ¬ A r → c r = 0) ∧ ∀ i, v i = su R (fun r => c r * x r i)
def Ind {K : Type} [Lean.Grind.CommRing K] (R : Nat) (A : Nat → Prop) (x : Nat → Nat → K) : Prop := ∀ c : Nat → K, (∀ r, ¬ A r → c r = 0) → (∀ i, su R (fun r => c r * x r i) = 0) → ∀ r, r < R → c r = 0
theorem Spn.zero {K : Type} [Lean.Grind.CommRing K] {R : Nat} {A : Nat → Prop} {x : Nat → Nat → K} : Spn R A x (fun _ => 0) :=
  ⟨fun _ => 0, fun _ _ => rfl, fun i => (su_z R (fun r _ => by grind)).symm⟩
theorem Spn.lin {K : Type} [Lean.Grind.CommRing K] {R : Nat} {A : Nat → Prop} {x : Nat → Nat → K} {u v : Nat → K} (hu : Spn R A x u) (hv : Spn R A x v) (t : K) : Spn R A x (fun i => u i + t * v i) := by
  obtain ⟨a, a1, a2⟩ := hu
  obtain ⟨b, b1, b2⟩ := hv
  refine ⟨fun r => a r + t * b r, fun r hr => by dsimp only; rw [a1 r hr, b1 r hr]; grind, fun i => ?_⟩
  show u i + t * v i = _
  rw [a2 i, b2 i, ← su_mul, ← su_add]
  exact su_cg R (fun r _ => by grind)
theorem Spn.cg {K : Type} [Lean.Grind.CommRing K] {R : Nat} {A : Nat → Prop} {x : Nat → Nat → K} {u v : Nat → K} (hu : Spn R A x u) (e : ∀ i, v i = u i) : Spn R A x v := by
  obtain ⟨a, a1, a2⟩ := hu
  exact ⟨a, a1, fun i => (e i).trans (a2 i)⟩
theorem Spn.cgx {K : Type} [Lean.Grind.CommRing K] {R : Nat} {A : Nat → Prop} {x y : Nat → Nat → K} {u : Nat → K} (hu : Spn R A x u) (e : ∀ r i, r < R → A r → y r i = x r i) : Spn R A y u := by
  obtain ⟨a, a1, a2⟩ := hu
  refine ⟨a, a1, fun i => (a2 i).trans (su_cg R (fun r hr => ?_))⟩
  by_cases h : A r
  · rw [e r i hr h]
  · rw [a1 r h]; grind
theorem Ind.cgx {K : Type} [Lean.Grind.CommRing K] {R : Nat} {A : Nat → Prop} {x y : Nat → Nat → K} (hx : Ind R A x) (e : ∀ r i, r < R → A r → y r i = x r i) : Ind R A y := by
  intro c h1 h2
  refine hx c h1 (fun i => ?_)
  rw [← h2 i]
  refine su_cg R (fun r hr => ?_)
  by_cases h : A r
  · rw [e r i hr h]
  · rw [h1 r h]; grind
theorem Ind.cgA {K : Type} [Lean.Grind.CommRing K] {R : Nat} {A B : Nat → Prop} {x : Nat → Nat → K} (hx : Ind R A x) (e : ∀ r, r < R → B r → A r) : Ind R B x := by
  intro c h1 h2 r hr
  have := hx (fun r => if r < R then c r else 0) (fun q hq => by
    by_cases h : q < R
    · rw [if_pos h]; exact h1 q (fun z => hq (e q h z))
    · rw [if_neg h]) (fun i => by
    rw [← h2 i]
    exact su_cg R (fun q hq => by rw [if_pos hq])) r hr
  rwa [if_pos hr] at this
theorem Spn.cgA {K : Type} [Lean.Grind.CommRing K] {R : Nat} {A B : Nat → Prop} {x : Nat → Nat → K} {v : Nat → K} (hv : Spn R A x v) (e : ∀ r, r < R → A r → B r) : Spn R B x v := by
  obtain ⟨a, a1, a2⟩ := hv
  refine ⟨fun r => if r < R then a r else 0, fun q hq => ?_, fun i => (a2 i).trans (su_cg R (fun q hq => by dsimp only; rw [if_pos hq]))⟩
  dsimp only
  by_cases h : q < R
  · rw [if_pos h]; exact a1 q (fun z => hq (e q h z))
  · rw [if_neg h]
theorem Spn.one {K : Type} [Lean.Grind.CommRing K] {R : Nat} {A : Nat → Prop} {x : Nat → Nat → K} {r : Nat} (hr : r < R) (hA : A r) : Spn R A x (x r) := by
  refine ⟨fun q => if q = r then 1 else 0, fun q hq => if_neg (fun e => hq (by rw [e]; exact hA)), fun i => ?_⟩
  dsimp only
  rw [su_one hr _ (fun q _ hne => by rw [if_neg hne]; grind), if_pos rfl]
  grind
theorem Spn.sum {K : Type} [Lean.Grind.CommRing K] {R : Nat} {A : Nat → Prop} {x y : Nat → Nat → K} (c : Nat → K) : ∀ n, (∀ j, j < n → Spn R A x (y j)) → Spn R A x (fun i => su n (fun j => c j * y j i))
  | 0, _ => Spn.zero
  | n + 1, h => (Spn.sum c n (fun j hj => h j (by omega))).lin (h n (by omega)) (c n)
theorem Spn.le {K : Type} [Lean.Grind.CommRing K] {R m : Nat} {A B : Nat → Prop} {x y : Nat → Nat → K} {v : Nat → K} (h : ∀ j, j < m → B j → Spn R A x (y j)) (hv : Spn m B y v) : Spn R A x v := by
  obtain ⟨c, c1, c2⟩ := hv
  have key : ∀ n, n ≤ m → Spn R A x (fun i => su n (fun j => c j * y j i)) := by
    intro n
    induction n with
    | zero => intro _; exact Spn.zero
    | succ n ih =>
      intro hn
      by_cases hB : B n
      · exact (ih (by omega)).lin (h n (by omega) hB) (c n)
      · refine (ih (by omega)).cg (fun i => ?_)
        rw [su_s, c1 n hB]
        grind
  exact (key m (Nat.le_refl _)).cg c2
/-! changing one of the family -/
theorem su_up {K : Type} [Lean.Grind.CommRing K] {R r : Nat} (hr : r < R) (c : Nat → K) (x : Nat → Nat → K) (y : Nat → K) (i : Nat) : su R (fun q => c q * up x r y q i) = su R (fun q => c q * x q i) + c r * (y i - x r i) := by
  rw [su_at hr (fun q => c q * up x r y q i), su_at hr (fun q => c q * x q i), up_s, su_cg R (g := fun q => if q = r then 0 else c q * x q i) (fun q _ => ?_)]
  · grind
  · by_cases e : q = r
    · rw [if_pos e, if_pos e]
    · rw [if_neg e, if_neg e, up_n _ _ e]
theorem su_upc {K : Type} [Lean.Grind.CommRing K] {R s : Nat} (hs : s < R) (c : Nat → K) (x : Nat → Nat → K) (y : K) (i : Nat) : su R (fun q => up c s y q * x q i) = su R (fun q => c q * x q i) + (y - c s) * x s i := by
  rw [su_at hs (fun q => up c s y q * x q i), su_at hs (fun q => c q * x q i), up_s, su_cg R (g := fun q => if q = s then 0 else c q * x q i) (fun q _ => ?_)]
  · grind
  · by_cases e : q = s
    · rw [if_pos e, if_pos e]
    · rw [if_neg e, if_neg e, up_n _ _ e]
theorem Ind.op {K : Type} [Lean.Grind.CommRing K] {R r s : Nat} {A : Nat → Prop} {x : Nat → Nat → K} (h : Ind R A x) (hr : r < R) (hs : s < R) (hA : A s) (hrs : r ≠ s) (t : K) : Ind R A (up x r (fun i => x r i + t * x s i)) := by
  intro c h1 h2
  have key := h (up c s (c s + t * c r)) (fun q hq => by
    by_cases e : q = s
    · exact absurd (e ▸ hA) hq
    · rw [up_n _ _ e]; exact h1 q hq) (fun i => by
    have := h2 i
    rw [su_up hr] at this
    rw [su_upc hs]
    grind)
  have hcr : c r = 0 := by
    have := key r hr
    rwa [up_n _ _ hrs] at this
  intro q hq
  have hk := key q hq
  by_cases e : q = s
  · subst e
    rw [up_s, hcr] at hk
    grind
  · rwa [up_n _ _ e] at hk
theorem Spn.op {K : Type} [Lean.Grind.CommRing K] {R r s : Nat} {A : Nat → Prop} {x : Nat → Nat → K} {v : Nat → K} (h : Spn R A x v) (hr : r < R) (hs : s < R) (hA : A s) (hrs : r ≠ s) (t : K) : Spn R A (up x r (fun i => x r i + t * x s i)) v := by
  obtain ⟨c, c1, c2⟩ := h
  refine ⟨up c s (c s - t * c r), fun q hq => ?_, fun i => ?_⟩
  · by_cases e : q = s
    · exact absurd (e ▸ hA) hq
    · rw [up_n _ _ e]; exact c1 q hq
  · rw [su_up hr, su_upc hs, up_n _ _ hrs, c2 i]
    grind
/-! counting -/
def cnt (R : Nat) (B : Nat → Bool) : Nat := match R with
  | 0 => 0
  | n + 1 => cnt n B + (if B n = true then 1 else 0)
theorem cnt_cg {B C : Nat → Bool} : ∀ R, (∀ r, r < R → B r = C r) → cnt R B = cnt R C
  | 0, _ => rfl
  | n + 1, h => by simp only [cnt]; rw [cnt_cg n (fun r hr => h r (by omega)), h n (by omega)]
theorem cnt_le (B : Nat → Bool) : ∀ R, cnt R B ≤ R
  | 0 => Nat.le_refl _
  | n + 1 => by have := cnt_le B n; simp only [cnt]; split <;> omega
theorem cnt_mono {B C : Nat → Bool} : ∀ R, (∀ r, r < R → B r = true → C r = true) → cnt R B ≤ cnt R C
  | 0, _ => Nat.le_refl _
  | n + 1, h => by
    have ih := cnt_mono n (fun r hr => h r (by omega))
    simp only [cnt]
    by_cases e : B n = true
    · rw [if_pos e, if_pos (h n (by omega) e)]; omega
    · rw [if_neg e]; omega
theorem cnt_z {B : Nat → Bool} : ∀ R, (∀ r, r < R → B r = false) → cnt R B = 0
  | 0, _ => rfl
  | n + 1, h => by simp only [cnt]; rw [cnt_z n (fun r hr => h r (by omega)), h n (by omega)]; rfl
theorem cnt_all {B : Nat → Bool} : ∀ R, (∀ r, r < R → B r = true) → cnt R B = R
  | 0, _ => rfl
  | n + 1, h => by simp only [cnt]; rw [cnt_all n (fun r hr => h r (by omega)), h n (by omega), if_pos rfl]
theorem cnt_enum {B : Nat → Bool} : ∀ R, ∃ e g : Nat → Nat, (∀ t, t < cnt R B → e t < R ∧ B (e t) = true ∧ g (e t) = t) ∧ (∀ r, r < R → B r = true → g r < cnt R B ∧ e (g r) = r)
  | 0 => ⟨id, id, fun t ht => absurd ht (Nat.not_lt_zero _), fun r hr => absurd hr (Nat.not_lt_zero _)⟩
  | n + 1 => by
    obtain ⟨e, g, h1, h2⟩ := cnt_enum (B := B) n
    by_cases hB : B n = true
    · refine ⟨up e (cnt n B) n, up g n (cnt n B), fun t ht => ?_, fun r hr hb => ?_⟩
      · simp only [cnt, if_pos hB] at ht
        by_cases z : t = cnt n B
        · subst z; rw [up_s, up_s]; exact ⟨by omega, hB, rfl⟩
        · obtain ⟨a1, a2, a3⟩ := h1 t (by omega)
          rw [up_n _ _ z, up_n _ _ (by omega)]; exact ⟨by omega, a2, a3⟩
      · simp only [cnt, if_pos hB]
        by_cases z : r = n
        · subst z; rw [up_s, up_s]; exact ⟨by omega, rfl⟩
        · obtain ⟨a1, a2⟩ := h2 r (by omega) hb
          rw [up_n _ _ z, up_n _ _ (by omega)]; exact ⟨by omega, a2⟩
    · refine ⟨e, g, fun t ht => ?_, fun r hr hb => ?_⟩
      · simp only [cnt, if_neg hB] at ht
        obtain ⟨a1, a2, a3⟩ := h1 t (by omega)
        exact ⟨by omega, a2, a3⟩
      · simp only [cnt, if_neg hB]
        have : r ≠ n := fun z => hB (z ▸ hb)
        obtain ⟨a1, a2⟩ := h2 r (by omega) hb
        exact ⟨by omega, a2⟩
theorem su_enum {K : Type} [Lean.Grind.CommRing K] {B : Nat → Bool} {e g : Nat → Nat} {R : Nat} (h1 : ∀ t, t < cnt R B → e t < R ∧ B (e t) = true ∧ g (e t) = t) (h2 : ∀ r, r < R → B r = true → g r < cnt R B ∧ e (g r) = r) (f : Nat → K) (hf : ∀ r, r < R → B r = false → f r = 0) : su R f = su (cnt R B) (fun t => f (e t)) := by
  have key : ∀ n, n ≤ cnt R B → su n (fun t => f (e t)) = su R (fun r => if B r = true ∧ g r < n then f r else 0) := by
    intro n
    induction n with
    | zero => intro _; exact (su_z R (fun r _ => if_neg (by omega))).symm
    | succ n ih =>
      intro hn
      obtain ⟨a1, a2, a3⟩ := h1 n (by omega)
      rw [su_s, ih (by omega), su_at a1 (fun r => if B r = true ∧ g r < n + 1 then f r else 0), if_pos ⟨a2, by omega⟩, su_cg R (g := fun r => if r = e n then 0 else if B r = true ∧ g r < n + 1 then f r else 0) (fun r hr => ?_)]
      · grind
      · by_cases z : r = e n
        · rw [if_pos z, if_neg (by rw [z, a3]; omega)]
        · rw [if_neg z]
          by_cases hb : B r = true
          · obtain ⟨b1, b2⟩ := h2 r hr hb
            have hne : g r ≠ n := fun q => z (by rw [← q, b2])
            by_cases l : g r < n
            · rw [if_pos ⟨hb, l⟩, if_pos ⟨hb, by omega⟩]
            · rw [if_neg (fun q => l q.2), if_neg (fun q => l (by omega))]
          · rw [if_neg (fun q => hb q.1), if_neg (fun q => hb q.1)]
  rw [key _ (Nat.le_refl _)]
  refine su_cg R (fun r hr => ?_)
  by_cases hb : B r = true
  · rw [if_pos ⟨hb, (h2 r hr hb).1⟩]
  · rw [if_neg (fun q => hb q.1)]
    exact hf r hr (by simpa using hb)
/-! the number of a basis -/
theorem dim_le {K : Type} [Lean.Grind.CommRing K] (inv : ∀ x : K, x ≠ 0 → ∃ y, x * y = 1) (h01 : (1 : K) ≠ 0) {m n : Nat} {y x : Nat → Nat → K} (hy : Ind m (fun _ => True) y) (hin : ∀ j, j < m → Spn n (fun _ => True) x (y j)) : m ≤ n := by
  rcases Nat.lt_or_ge n m with h | h
  · exfalso
    have hch : ∃ a : Nat → Nat → K, ∀ j, j < m → ∀ i, y j i = su n (fun r => a j r * x r i) := by
      refine ⟨fun j => if q : j < m then Classical.choose (hin j q) else fun _ => 0, fun j hj i => ?_⟩
      simp only [dif_pos hj]
      exact (Classical.choose_spec (hin j hj)).2 i
    obtain ⟨a, ha⟩ := hch
    obtain ⟨c, ⟨j, hj, hcj⟩, hc⟩ := kern inv h01 m n (fun r j => a j r) h
    refine hcj (hy c (fun r q => absurd trivial q) (fun i => ?_) j hj)
    rw [su_cg m (g := fun j => su n (fun r => a j r * c j * x r i)) (fun j hj => by
      rw [ha j hj i, ← su_mul]
      exact su_cg n (fun r _ => by grind)), su_swap]
    refine su_z n (fun r hr => ?_)
    rw [su_mulr, hc r hr]
    grind
  · exact h
theorem dim_eq {K : Type} [Lean.Grind.CommRing K] (inv : ∀ x : K, x ≠ 0 → ∃ y, x * y = 1) (h01 : (1 : K) ≠ 0) {m n : Nat} {y x : Nat → Nat → K} (hy : Ind m (fun _ => True) y) (hx : Ind n (fun _ => True) x) (h1 : ∀ j, j < m → Spn n (fun _ => True) x (y j)) (h2 : ∀ j, j < n → Spn m (fun _ => True) y (x j)) : m = n :=
  Nat.le_antisymm (dim_le inv h01 hy h1) (dim_le inv h01 hx h2)
/-- the chosen ones of a family, one behind another -/
theorem fam_enum {K : Type} [Lean.Grind.CommRing K] {R : Nat} {B : Nat → Bool} {x : Nat → Nat → K} (h : Ind R (fun r => B r = true) x) : ∃ e g : Nat → Nat, (∀ t, t < cnt R B → e t < R ∧ B (e t) = true ∧ g (e t) = t) ∧ (∀ r, r < R → B r = true → g r < cnt R B ∧ e (g r) = r) ∧ Ind (cnt R B) (fun _ => True) (fun t => x (e t)) ∧ ∀ v, Spn R (fun r => B r = true) x v ↔ Spn (cnt R B) (fun _ => True) (fun t => x (e t)) v := by
  obtain ⟨e, g, h1, h2⟩ := cnt_enum (B := B) R
  refine ⟨e, g, h1, h2, fun c _ hc t ht => ?_, fun v => ⟨fun hv => ?_, fun hv => ?_⟩⟩
  · obtain ⟨a1, a2, a3⟩ := h1 t ht
    have := h (fun r => if B r = true then c (g r) else 0) (fun r hr => if_neg hr) (fun i => by
      rw [su_enum h1 h2 _ (fun r _ hb => by rw [if_neg (by rw [hb]; decide)]; grind), ← hc i]
      refine su_cg _ (fun t ht => ?_)
      obtain ⟨b1, b2, b3⟩ := h1 t ht
      rw [if_pos b2, b3]) (e t) a1
    rwa [if_pos a2, a3] at this
  · obtain ⟨c, c1, c2⟩ := hv
    refine ⟨fun t => c (e t), fun r q => absurd trivial q, fun i => ?_⟩
    rw [c2 i, su_enum h1 h2 _ (fun r _ hb => by rw [c1 r (by dsimp only; rw [hb]; decide)]; grind)]
  · refine Spn.le (fun t ht _ => ?_) hv
    obtain ⟨b1, b2, b3⟩ := h1 t ht
    exact Spn.one b1 b2
theorem dim_B {K : Type} [Lean.Grind.CommRing K] (inv : ∀ x : K, x ≠ 0 → ∃ y, x * y = 1) (h01 : (1 : K) ≠ 0) {R k : Nat} {B : Nat → Bool} {x y : Nat → Nat → K} (hx : Ind R (fun r => B r = true) x) (hy : Ind k (fun _ => True) y) (h : ∀ v, Spn R (fun r => B r = true) x v ↔ Spn k (fun _ => True) y v) : k = cnt R B := by
  obtain ⟨e, g, h1, h2, h3, h4⟩ := fam_enum hx
  exact dim_eq inv h01 hy h3 (fun j hj => (h4 _).mp ((h _).mpr (Spn.one hj trivial))) (fun t ht => (h _).mp ((h4 _).mpr (Spn.one ht trivial)))

/-! the space that rows make, modulo p -/
theorem sm_add (n : Nat) (f g : Nat → Int) : sm n (fun i => f i + g i) = sm n f + sm n g := by
  induction n with
  | zero => rfl
  | succ n ih => rw [sm_s, sm_s, sm_s, ih]; omega
theorem sm_mul (n : Nat) (t : Int) (f : Nat → Int) : sm n (fun i => t * f i) = t * sm n f := by
  induction n with
  | zero => simp [sm]
  | succ n ih => rw [sm_s, sm_s, ih, Int.mul_add]
theorem sm_one (n k : Nat) (x : Nat → Int) (h : k < n) : sm n (fun i => (if i = k then 1 else 0) * x i) = x k := by
  induction n with
  | zero => omega
  | succ n ih =>
    rw [sm_s]
    by_cases e : k = n
    · subst e
      have h0 : sm k (fun i => (if i = k then 1 else 0) * x i) = 0 := by
        have : ∀ m, m ≤ k → sm m (fun i => (if i = k then 1 else 0) * x i) = 0 := by
          intro m
          induction m with
          | zero => intro _; rfl
          | succ m im =>
            intro hm
            rw [sm_s, im (by omega), if_neg (by omega)]
            simp
        exact this k (Nat.le_refl _)
      rw [h0, if_pos rfl]
      omega
    · rw [ih (by omega), if_neg (fun z => e z.symm)]
      simp
def Sp (p c w : Nat) (M : Nat → Nat → Int) (v : Nat → Int) : Prop := ∃ a : Nat → Int, ∀ j, j < w → (p : Int) ∣ v j - sm c (fun i => a i * M i j)
theorem Sp.row {p c w : Nat} {M : Nat → Nat → Int} {i : Nat} (h : i < c) : Sp p c w M (M i) := by
  refine ⟨fun x => if x = i then 1 else 0, fun j _ => ?_⟩
  rw [sm_one c i (fun x => M x j) h, Int.sub_self]
  exact Int.dvd_zero _
theorem Sp.cg {p c w : Nat} {M : Nat → Nat → Int} {u v : Nat → Int} (h : Sp p c w M u) (e : ∀ j, j < w → (p : Int) ∣ v j - u j) : Sp p c w M v := by
  obtain ⟨a, ha⟩ := h
  refine ⟨a, fun j hj => ?_⟩
  have := Int.dvd_add (e j hj) (ha j hj)
  rwa [show v j - u j + (u j - sm c (fun i => a i * M i j)) = v j - sm c (fun i => a i * M i j) by omega] at this
theorem Sp.lin {p c w : Nat} {M : Nat → Nat → Int} {u v : Nat → Int} (hu : Sp p c w M u) (hv : Sp p c w M v) (t : Int) : Sp p c w M (fun j => u j + t * v j) := by
  obtain ⟨a, ha⟩ := hu
  obtain ⟨b, hb⟩ := hv
  refine ⟨fun i => a i + t * b i, fun j hj => ?_⟩
  have e : sm c (fun i => (a i + t * b i) * M i j) = sm c (fun i => a i * M i j) + t * sm c (fun i => b i * M i j) := by
    rw [← sm_mul, ← sm_add]
    refine sm_cg c (fun i _ => ?_)
    rw [Int.add_mul, Int.mul_assoc]
  rw [e]
  have h1 := ha j hj
  have h2 : (p : Int) ∣ t * (v j - sm c (fun i => b i * M i j)) := Int.dvd_trans (hb j hj) (Int.dvd_mul_left _ _)
  have h3 := Int.dvd_add h1 h2
  rw [Int.mul_sub] at h3
  rwa [show u j - sm c (fun i => a i * M i j) + (t * v j - t * sm c (fun i => b i * M i j)) = u j + t * v j - (sm c (fun i => a i * M i j) + t * sm c (fun i => b i * M i j)) by omega] at h3
theorem Sp.zero {p c w : Nat} {M : Nat → Nat → Int} : Sp p c w M (fun _ => 0) := by
  refine ⟨fun _ => 0, fun j _ => ?_⟩
  have : sm c (fun i => 0 * M i j) = 0 := by
    have h := sm_mul c 0 (fun i => M i j)
    rw [h, Int.zero_mul]
  rw [this, Int.sub_self]
  exact Int.dvd_zero _
theorem Sp.mul {p c w : Nat} {M : Nat → Nat → Int} {v : Nat → Int} (hv : Sp p c w M v) (t : Int) : Sp p c w M (fun j => t * v j) := by
  have := Sp.zero.lin hv t
  refine this.cg (fun j _ => ?_)
  rw [Int.zero_add, Int.sub_self]
  exact Int.dvd_zero _
theorem Sp.sum {p c w : Nat} {M N : Nat → Nat → Int} (a : Nat → Int) : ∀ n, (∀ i, i < n → Sp p c w M (N i)) → Sp p c w M (fun j => sm n (fun i => a i * N i j))
  | 0, _ => Sp.zero
  | n + 1, h => by
    have ih := Sp.sum a n (fun i hi => h i (by omega))
    exact ih.lin (h n (by omega)) (a n)
/-- rows that lie in a space make no more than it -/
theorem Sp.le {p c c' w : Nat} {M N : Nat → Nat → Int} (h : ∀ i, i < c' → Sp p c w M (N i)) {v : Nat → Int} (hv : Sp p c' w N v) : Sp p c w M v := by
  obtain ⟨a, ha⟩ := hv
  exact (Sp.sum a c' h).cg ha
theorem emod_dvd (x : Int) (p : Nat) : (p : Int) ∣ x - x % p := by
  have := Int.emod_add_mul_ediv x p
  exact ⟨x / p, by omega⟩

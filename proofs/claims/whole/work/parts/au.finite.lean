/-! FINITE trees have other numbers for one of a few -/
theorem aj_low {P : Nat → Nat} {k i : Nat} (hP : ∀ j, 0 < j → j ≤ k + 1 → P j < j) (hi : i ≤ k) : ajT P i (k + 1) = decide (P (k + 1) = i) := by
  unfold ajT
  have : (decide (0 < i) && P i == k + 1) = false := by
    by_cases z : 0 < i
    · have := hP i z (by omega)
      rw [show (P i == k + 1) = false from by simp; omega, Bool.and_false]
    · rw [decide_eq_false z, Bool.false_and]
  rw [this, Bool.false_or, show decide (0 < k + 1) = true from by simp, Bool.true_and]
  by_cases e : P (k + 1) = i
  · simp [e]
  · simp [e]
theorem nsm_s (P : Nat → Nat) (k : Nat) (x : Nat → Int) (i : Nat) : nsm P (k + 1) x i = nsm P k x i + (if ajT P i k then x k else 0) := rfl
theorem nsm_low {P : Nat → Nat} {k i : Nat} (hP : ∀ j, 0 < j → j ≤ k + 1 → P j < j) (x : Nat → Int) (hi : i ≤ k) : nsm P (k + 2) x i = nsm P (k + 1) x i + (if P (k + 1) = i then x (k + 1) else 0) := by
  rw [nsm_s, aj_low hP hi]
  congr 1
  by_cases e : P (k + 1) = i
  · rw [if_pos e, if_pos (by simp [e])]
  · rw [if_neg e, if_neg (by simp [e])]
theorem nsm_top {P : Nat → Nat} {k : Nat} (hP : ∀ j, 0 < j → j ≤ k + 1 → P j < j) (x : Nat → Int) : nsm P (k + 2) x (k + 1) = x (P (k + 1)) := by
  have ht := hP (k + 1) (by omega) (Nat.le_refl _)
  unfold nsm
  rw [su_one (show P (k + 1) < k + 2 by omega) _ (fun j hj hn => if_neg (by
    unfold ajT
    have l : 0 < j → P j ≠ k + 1 := fun z => by have := hP j z (by omega); omega
    simp
    exact ⟨Ne.symm hn, l⟩)), if_pos (by unfold ajT; simp)]
theorem kd_mm (P : Nat → Nat) : ∀ (k : Nat), (∀ j, 0 < j → j ≤ k → P j < j) → ∀ (a b x : Nat → Int), (∀ i, i ≤ k → 0 < b i) → kd P k a b = 1 → (∀ i, i ≤ k → a i * x i ≤ b i * nsm P (k + 1) x i) → ∀ i, i ≤ k → x i ≤ 0
  | 0, _, a, b, x, _, hk, h, i, hi => by
    have e : i = 0 := by omega
    subst e
    have h0 := h 0 (Nat.le_refl _)
    rw [nsm_s, show nsm P 0 x 0 = 0 from rfl, show ajT P 0 0 = false from rfl] at h0
    rw [kd] at hk
    have ha : 0 < a 0 := by
      by_cases l : 0 < a 0
      · exact l
      · rw [if_neg l] at hk; split at hk <;> omega
    by_cases l : x 0 ≤ 0
    · exact l
    · have := Int.mul_pos ha (show 0 < x 0 by omega)
      simp at h0
      omega
  | k + 1, hP, a, b, x, hb, hk, h, i, hi => by
    rw [kd] at hk
    have ha : 0 < a (k + 1) := by
      by_cases l : a (k + 1) ≤ 0
      · rw [if_pos l] at hk; omega
      · omega
    rw [if_neg (by omega)] at hk
    have ht := hP (k + 1) (by omega) (Nat.le_refl _)
    have hl := h (k + 1) (Nat.le_refl _)
    rw [nsm_top hP x] at hl
    have low := kd_mm P k (fun j h1 h2 => hP j h1 (by omega)) (uaT P (k + 1) a b) (ubT P (k + 1) a b) x (fun i hi => by
      unfold ubT
      split
      · exact Int.mul_pos (hb i (by omega)) ha
      · exact hb i (by omega)) hk (fun i hi => by
      have hi' := h i (by omega)
      rw [nsm_low hP x hi] at hi'
      unfold uaT ubT
      by_cases e : i = P (k + 1)
      · rw [if_pos e, if_pos e]
        rw [if_pos e.symm] at hi'
        rw [← e] at hl
        have m1 := Int.mul_le_mul_of_nonneg_right hi' (show 0 ≤ a (k + 1) by omega)
        have m2 := Int.mul_le_mul_of_nonneg_left hl (show 0 ≤ b i by have := hb i (by omega); omega)
        grind
      · rw [if_neg e, if_neg e]
        rw [if_neg (fun q => e q.symm)] at hi'
        rw [Int.add_zero] at hi'
        exact hi')
    by_cases e : i = k + 1
    · subst e
      have h1 := low (P (k + 1)) (by omega)
      have h2 := Int.mul_nonneg (show 0 ≤ b (k + 1) by have := hb (k + 1) (Nat.le_refl _); omega) (show 0 ≤ - x (P (k + 1)) by omega)
      rw [Int.mul_neg] at h2
      by_cases l : x (k + 1) ≤ 0
      · exact l
      · have := Int.mul_pos ha (show 0 < x (k + 1) by omega)
        omega
    · exact low i (by omega)
theorem kdT_mm {P : Nat → Nat} {n : Nat} (hn : 1 ≤ n) (hP : ∀ j, 1 ≤ j → j < n → P j < j) (hk : kdT P n = 1) (x : Nat → Int) (h : ∀ i, i < n → 2 * x i ≤ nsm P n x i) : ∀ i, i < n → x i ≤ 0 := fun i hi =>
  kd_mm P (n - 1) (fun j h1 h2 => hP j h1 (by omega)) (fun _ => 2) (fun _ => 1) x (fun _ _ => by omega) hk (fun i hi => by
    rw [show n - 1 + 1 = n by omega, Int.one_mul]
    exact h i (by omega)) i (by omega)
theorem bt_hi {H n : Nat} (h : H < 2 ^ n) : bt H n = false := by
  unfold bt
  rw [Nat.div_eq_of_lt h]
  rfl
theorem kdT_pre {P : Nat → Nat} {n : Nat} (hn : 1 ≤ n) (hP : ∀ j, 1 ≤ j → j < n + 1 → P j < j) (hk : kdT P (n + 1) = 1) : kdT P n = 1 := by
  have a := (kdT_all (n := n + 1) (by omega) hP).2.1 hk
  have b := kdT_all hn (fun j h1 h2 => hP j h1 (by omega))
  have kv : kdT P n = 1 ∨ kdT P n = 2 ∨ kdT P n = 3 := kd_val P (n - 1) (fun _ => 2) (fun _ => 1)
  have e : ∀ H, H < 2 ^ n → DH P (n + 1) H = DH P n H := fun H hH => DT_out P (bt H) n _ _ (bt_hi hH)
  have p := Nat.two_pow_pos n
  rcases kv with q | q | q
  · exact q
  · have := b.2.2.1 q
    have := a (2 ^ n - 1)
    rw [e _ (by omega)] at this
    omega
  · obtain ⟨H, h1, h2, h3⟩ := b.2.2.2 q
    have := a H
    rw [e _ h2] at this
    omega
theorem ajT_comm (P : Nat → Nat) (i j : Nat) : ajT P i j = ajT P j i := by unfold ajT; exact Bool.or_comm _ _
theorem iso_tr {n : Nat} {P Q R pi ro pj rj : Nat → Nat} (h : IsoT n P Q pi ro) (g : IsoT n Q R pj rj) : IsoT n P R (fun i => pj (pi i)) (fun i => ro (rj i)) :=
  ⟨fun i hi => ⟨(g.1 _ (h.1 i hi).1).1, by dsimp only; rw [(g.1 _ (h.1 i hi).1).2, (h.1 i hi).2]⟩, fun i hi => ⟨(h.2.1 _ (g.2.1 i hi).1).1, by dsimp only; rw [(h.2.1 _ (g.2.1 i hi).1).2, (g.2.1 i hi).2]⟩, fun i j hi hj => (h.2.2 i j hi hj).trans (g.2.2 _ _ (h.1 i hi).1 (h.1 j hj).1)⟩
def exP (Q : Nat → Nat) (n q : Nat) : Nat → Nat := fun j => if j = n then q else Q j
theorem iso_ex {n : Nat} {P Q pi ro : Nat → Nat} (hn : 1 ≤ n) (hP : ∀ j, 1 ≤ j → j < n + 1 → P j < j) (hQ : ∀ j, 1 ≤ j → j < n → Q j < j) (h : IsoT n P Q pi ro) :
    IsoT (n + 1) P (exP Q n (pi (P n))) (fun i => if i = n then n else pi i) (fun i => if i = n then n else ro i) := by
  have ht := hP n hn (by omega)
  have key : ∀ i, i < n → ajT P i n = ajT (exP Q n (pi (P n))) (pi i) n := fun i hi => by
    have l1 := (h.1 i hi).1
    unfold ajT exP
    rw [if_pos rfl, if_neg (show ¬ pi i = n by omega)]
    have a : (decide (0 < i) && P i == n) = false := by
      by_cases z : 0 < i
      · have := hP i z (by omega)
        rw [show (P i == n) = false from by simp; omega, Bool.and_false]
      · rw [decide_eq_false z, Bool.false_and]
    have b : (decide (0 < pi i) && Q (pi i) == n) = false := by
      by_cases z : 0 < pi i
      · have := hQ (pi i) z l1
        rw [show (Q (pi i) == n) = false from by simp; omega, Bool.and_false]
      · rw [decide_eq_false z, Bool.false_and]
    rw [a, b, Bool.false_or, Bool.false_or]
    congr 1
    by_cases e : P n = i
    · rw [e]; simp
    · rw [show (P n == i) = false from by simpa using e, eq_comm]
      simp
      intro q
      have a := (h.1 _ ht).2
      rw [q, (h.1 i hi).2] at a
      exact e a.symm
  refine ⟨fun i hi => ?_, fun i hi => ?_, fun i j hi hj => ?_⟩ <;> dsimp only
  · by_cases e : i = n
    · rw [if_pos e, if_pos rfl]; exact ⟨by omega, e.symm⟩
    · have l := h.1 i (by omega)
      rw [if_neg e, if_neg (by omega)]; exact ⟨by omega, l.2⟩
  · by_cases e : i = n
    · rw [if_pos e, if_pos rfl]; exact ⟨by omega, e.symm⟩
    · have l := h.2.1 i (by omega)
      rw [if_neg e, if_neg (by omega)]; exact ⟨by omega, l.2⟩
  · by_cases e : i = n
    · rw [if_pos e]
      by_cases e2 : j = n
      · rw [if_pos e2, e, e2]
        unfold ajT exP
        have l := (h.1 _ ht).1
        rw [if_pos rfl, show (P n == n) = false from by simp; omega, show (pi (P n) == n) = false from by simp; omega]
      · rw [if_neg e2, e, ajT_comm P, ajT_comm (exP Q n (pi (P n)))]
        exact key j (by omega)
    · rw [if_neg e]
      by_cases e2 : j = n
      · rw [if_pos e2, e2]
        exact key i (by omega)
      · rw [if_neg e2, h.2.2 i j (by omega) (by omega)]
        have l1 := (h.1 i (by omega)).1
        have l2 := (h.1 j (by omega)).1
        unfold ajT exP
        rw [if_neg (show ¬ pi i = n by omega), if_neg (show ¬ pi j = n by omega)]
/-! the few -/
def isoB (n : Nat) (P Q : Nat → Nat) (l r : List Nat) : Bool := (List.range n).all (fun i => (Nat.ble (l.getD i 0 + 1) n && (r.getD (l.getD i 0) 0 == i && (Nat.ble (r.getD i 0 + 1) n && l.getD (r.getD i 0) 0 == i))) && (List.range n).all (fun j => ajT P i j == ajT Q (l.getD i 0) (l.getD j 0)))
theorem isoB_ok {n : Nat} {P Q : Nat → Nat} {l r : List Nat} (h : isoB n P Q l r = true) : IsoT n P Q (fun i => l.getD i 0) (fun i => r.getD i 0) := by
  have a : ∀ i, i < n → (l.getD i 0 < n ∧ r.getD (l.getD i 0) 0 = i ∧ r.getD i 0 < n ∧ l.getD (r.getD i 0) 0 = i) ∧ ∀ j, j < n → ajT P i j = ajT Q (l.getD i 0) (l.getD j 0) := fun i hi => by
    have q := List.all_eq_true.1 h i (List.mem_range.2 hi)
    simp only [Bool.and_eq_true] at q
    obtain ⟨⟨q1, q2, q3, q4⟩, q5⟩ := q
    refine ⟨⟨Nat.le_of_ble_eq_true q1, eq_of_beq q2, Nat.le_of_ble_eq_true q3, eq_of_beq q4⟩, fun j hj => ?_⟩
    exact eq_of_beq (List.all_eq_true.1 q5 j (List.mem_range.2 hj))
  exact ⟨fun i hi => ⟨(a i hi).1.1, (a i hi).1.2.1⟩, fun i hi => ⟨(a i hi).1.2.2.1, (a i hi).1.2.2.2⟩, fun i j hi hj => (a i hi).2 j hj⟩
def vecB (n : Nat) (P : Nat → Nat) (l : List Nat) : Bool := (List.range n).all (fun i => Nat.ble (2 * l.getD i 0) (nsl P n l i)) && (List.range n).any (fun i => Nat.ble 1 (l.getD i 0))
theorem vecB_ok {n : Nat} {P : Nat → Nat} {l : List Nat} (h : vecB n P l = true) : (∀ i, i < n → 2 * gl l i ≤ nsm P n (gl l) i) ∧ ∃ i, i < n ∧ 1 ≤ gl l i := by
  unfold vecB at h
  rw [Bool.and_eq_true] at h
  refine ⟨fun i hi => ?_, ?_⟩
  · have q := Nat.le_of_ble_eq_true (List.all_eq_true.1 h.1 i (List.mem_range.2 hi))
    rw [← nsl_su]
    unfold gl
    omega
  · obtain ⟨i, h1, h2⟩ := List.any_eq_true.1 h.2
    have := Nat.le_of_ble_eq_true h2
    exact ⟨i, List.mem_range.1 h1, by unfold gl; omega⟩

def cnT : List (Nat × Nat × List (List Nat)) := [
  (1, 0, [[1]]),
  (2, 0, [[1, 0], [0, 1], [1, 1]]),
  (3, 10, [[1, 0, 0], [0, 1, 0], [0, 0, 1], [1, 1, 0], [0, 1, 1], [1, 1, 1]]),
  (4, 210, [[1, 0, 0, 0], [0, 1, 0, 0], [0, 0, 1, 0], [0, 0, 0, 1], [1, 1, 0, 0], [0, 1, 1, 0], [0, 0, 1, 1], [1, 1, 1, 0], [0, 1, 1, 1], [1, 1, 1, 1]]),
  (5, 3210, [[1, 0, 0, 0, 0], [0, 1, 0, 0, 0], [0, 0, 1, 0, 0], [0, 0, 0, 1, 0], [0, 0, 0, 0, 1], [1, 1, 0, 0, 0], [0, 1, 1, 0, 0], [0, 0, 1, 1, 0], [0, 0, 0, 1, 1], [1, 1, 1, 0, 0], [0, 1, 1, 1, 0], [0, 0, 1, 1, 1], [1, 1, 1, 1, 0], [0, 1, 1, 1, 1], [1, 1, 1, 1, 1]]),
  (6, 43210, [[1, 0, 0, 0, 0, 0], [0, 1, 0, 0, 0, 0], [0, 0, 1, 0, 0, 0], [0, 0, 0, 1, 0, 0], [0, 0, 0, 0, 1, 0], [0, 0, 0, 0, 0, 1], [1, 1, 0, 0, 0, 0], [0, 1, 1, 0, 0, 0], [0, 0, 1, 1, 0, 0], [0, 0, 0, 1, 1, 0], [0, 0, 0, 0, 1, 1], [1, 1, 1, 0, 0, 0], [0, 1, 1, 1, 0, 0], [0, 0, 1, 1, 1, 0], [0, 0, 0, 1, 1, 1], [1, 1, 1, 1, 0, 0], [0, 1, 1, 1, 1, 0], [0, 0, 1, 1, 1, 1], [1, 1, 1, 1, 1, 0], [0, 1, 1, 1, 1, 1], [1, 1, 1, 1, 1, 1]]),
  (7, 543210, [[1, 0, 0, 0, 0, 0, 0], [0, 1, 0, 0, 0, 0, 0], [0, 0, 1, 0, 0, 0, 0], [0, 0, 0, 1, 0, 0, 0], [0, 0, 0, 0, 1, 0, 0], [0, 0, 0, 0, 0, 1, 0], [0, 0, 0, 0, 0, 0, 1], [1, 1, 0, 0, 0, 0, 0], [0, 1, 1, 0, 0, 0, 0], [0, 0, 1, 1, 0, 0, 0], [0, 0, 0, 1, 1, 0, 0], [0, 0, 0, 0, 1, 1, 0], [0, 0, 0, 0, 0, 1, 1], [1, 1, 1, 0, 0, 0, 0], [0, 1, 1, 1, 0, 0, 0], [0, 0, 1, 1, 1, 0, 0], [0, 0, 0, 1, 1, 1, 0], [0, 0, 0, 0, 1, 1, 1], [1, 1, 1, 1, 0, 0, 0], [0, 1, 1, 1, 1, 0, 0], [0, 0, 1, 1, 1, 1, 0], [0, 0, 0, 1, 1, 1, 1], [1, 1, 1, 1, 1, 0, 0], [0, 1, 1, 1, 1, 1, 0], [0, 0, 1, 1, 1, 1, 1], [1, 1, 1, 1, 1, 1, 0], [0, 1, 1, 1, 1, 1, 1], [1, 1, 1, 1, 1, 1, 1]]),
  (8, 6543210, [[1, 0, 0, 0, 0, 0, 0, 0], [0, 1, 0, 0, 0, 0, 0, 0], [0, 0, 1, 0, 0, 0, 0, 0], [0, 0, 0, 1, 0, 0, 0, 0], [0, 0, 0, 0, 1, 0, 0, 0], [0, 0, 0, 0, 0, 1, 0, 0], [0, 0, 0, 0, 0, 0, 1, 0], [0, 0, 0, 0, 0, 0, 0, 1], [1, 1, 0, 0, 0, 0, 0, 0], [0, 1, 1, 0, 0, 0, 0, 0], [0, 0, 1, 1, 0, 0, 0, 0], [0, 0, 0, 1, 1, 0, 0, 0], [0, 0, 0, 0, 1, 1, 0, 0], [0, 0, 0, 0, 0, 1, 1, 0], [0, 0, 0, 0, 0, 0, 1, 1], [1, 1, 1, 0, 0, 0, 0, 0], [0, 1, 1, 1, 0, 0, 0, 0], [0, 0, 1, 1, 1, 0, 0, 0], [0, 0, 0, 1, 1, 1, 0, 0], [0, 0, 0, 0, 1, 1, 1, 0], [0, 0, 0, 0, 0, 1, 1, 1], [1, 1, 1, 1, 0, 0, 0, 0], [0, 1, 1, 1, 1, 0, 0, 0], [0, 0, 1, 1, 1, 1, 0, 0], [0, 0, 0, 1, 1, 1, 1, 0], [0, 0, 0, 0, 1, 1, 1, 1], [1, 1, 1, 1, 1, 0, 0, 0], [0, 1, 1, 1, 1, 1, 0, 0], [0, 0, 1, 1, 1, 1, 1, 0], [0, 0, 0, 1, 1, 1, 1, 1], [1, 1, 1, 1, 1, 1, 0, 0], [0, 1, 1, 1, 1, 1, 1, 0], [0, 0, 1, 1, 1, 1, 1, 1], [1, 1, 1, 1, 1, 1, 1, 0], [0, 1, 1, 1, 1, 1, 1, 1], [1, 1, 1, 1, 1, 1, 1, 1]]),
  (9, 76543210, [[1, 0, 0, 0, 0, 0, 0, 0, 0], [0, 1, 0, 0, 0, 0, 0, 0, 0], [0, 0, 1, 0, 0, 0, 0, 0, 0], [0, 0, 0, 1, 0, 0, 0, 0, 0], [0, 0, 0, 0, 1, 0, 0, 0, 0], [0, 0, 0, 0, 0, 1, 0, 0, 0], [0, 0, 0, 0, 0, 0, 1, 0, 0], [0, 0, 0, 0, 0, 0, 0, 1, 0], [0, 0, 0, 0, 0, 0, 0, 0, 1], [1, 1, 0, 0, 0, 0, 0, 0, 0], [0, 1, 1, 0, 0, 0, 0, 0, 0], [0, 0, 1, 1, 0, 0, 0, 0, 0], [0, 0, 0, 1, 1, 0, 0, 0, 0], [0, 0, 0, 0, 1, 1, 0, 0, 0], [0, 0, 0, 0, 0, 1, 1, 0, 0], [0, 0, 0, 0, 0, 0, 1, 1, 0], [0, 0, 0, 0, 0, 0, 0, 1, 1], [1, 1, 1, 0, 0, 0, 0, 0, 0], [0, 1, 1, 1, 0, 0, 0, 0, 0], [0, 0, 1, 1, 1, 0, 0, 0, 0], [0, 0, 0, 1, 1, 1, 0, 0, 0], [0, 0, 0, 0, 1, 1, 1, 0, 0], [0, 0, 0, 0, 0, 1, 1, 1, 0], [0, 0, 0, 0, 0, 0, 1, 1, 1], [1, 1, 1, 1, 0, 0, 0, 0, 0], [0, 1, 1, 1, 1, 0, 0, 0, 0], [0, 0, 1, 1, 1, 1, 0, 0, 0], [0, 0, 0, 1, 1, 1, 1, 0, 0], [0, 0, 0, 0, 1, 1, 1, 1, 0], [0, 0, 0, 0, 0, 1, 1, 1, 1], [1, 1, 1, 1, 1, 0, 0, 0, 0], [0, 1, 1, 1, 1, 1, 0, 0, 0], [0, 0, 1, 1, 1, 1, 1, 0, 0], [0, 0, 0, 1, 1, 1, 1, 1, 0], [0, 0, 0, 0, 1, 1, 1, 1, 1], [1, 1, 1, 1, 1, 1, 0, 0, 0], [0, 1, 1, 1, 1, 1, 1, 0, 0], [0, 0, 1, 1, 1, 1, 1, 1, 0], [0, 0, 0, 1, 1, 1, 1, 1, 1], [1, 1, 1, 1, 1, 1, 1, 0, 0], [0, 1, 1, 1, 1, 1, 1, 1, 0], [0, 0, 1, 1, 1, 1, 1, 1, 1], [1, 1, 1, 1, 1, 1, 1, 1, 0], [0, 1, 1, 1, 1, 1, 1, 1, 1], [1, 1, 1, 1, 1, 1, 1, 1, 1]]),
  (4, 110, [[1, 0, 0, 0], [0, 1, 0, 0], [0, 0, 1, 0], [0, 0, 0, 1], [1, 1, 0, 0], [0, 1, 1, 0], [0, 1, 0, 1], [1, 1, 1, 0], [1, 1, 0, 1], [0, 1, 1, 1], [1, 1, 1, 1], [1, 2, 1, 1]]),
  (5, 2210, [[1, 0, 0, 0, 0], [0, 1, 0, 0, 0], [0, 0, 1, 0, 0], [0, 0, 0, 1, 0], [0, 0, 0, 0, 1], [1, 1, 0, 0, 0], [0, 1, 1, 0, 0], [0, 0, 1, 1, 0], [0, 0, 1, 0, 1], [1, 1, 1, 0, 0], [0, 1, 1, 1, 0], [0, 1, 1, 0, 1], [0, 0, 1, 1, 1], [1, 1, 1, 1, 0], [1, 1, 1, 0, 1], [0, 1, 1, 1, 1], [1, 1, 1, 1, 1], [0, 1, 2, 1, 1], [1, 1, 2, 1, 1], [1, 2, 2, 1, 1]]),
  (6, 33210, [[1, 0, 0, 0, 0, 0], [0, 1, 0, 0, 0, 0], [0, 0, 1, 0, 0, 0], [0, 0, 0, 1, 0, 0], [0, 0, 0, 0, 1, 0], [0, 0, 0, 0, 0, 1], [1, 1, 0, 0, 0, 0], [0, 1, 1, 0, 0, 0], [0, 0, 1, 1, 0, 0], [0, 0, 0, 1, 1, 0], [0, 0, 0, 1, 0, 1], [1, 1, 1, 0, 0, 0], [0, 1, 1, 1, 0, 0], [0, 0, 1, 1, 1, 0], [0, 0, 1, 1, 0, 1], [0, 0, 0, 1, 1, 1], [1, 1, 1, 1, 0, 0], [0, 1, 1, 1, 1, 0], [0, 1, 1, 1, 0, 1], [0, 0, 1, 1, 1, 1], [1, 1, 1, 1, 1, 0], [1, 1, 1, 1, 0, 1], [0, 1, 1, 1, 1, 1], [0, 0, 1, 2, 1, 1], [1, 1, 1, 1, 1, 1], [0, 1, 1, 2, 1, 1], [1, 1, 1, 2, 1, 1], [0, 1, 2, 2, 1, 1], [1, 1, 2, 2, 1, 1], [1, 2, 2, 2, 1, 1]]),
  (7, 443210, [[1, 0, 0, 0, 0, 0, 0], [0, 1, 0, 0, 0, 0, 0], [0, 0, 1, 0, 0, 0, 0], [0, 0, 0, 1, 0, 0, 0], [0, 0, 0, 0, 1, 0, 0], [0, 0, 0, 0, 0, 1, 0], [0, 0, 0, 0, 0, 0, 1], [1, 1, 0, 0, 0, 0, 0], [0, 1, 1, 0, 0, 0, 0], [0, 0, 1, 1, 0, 0, 0], [0, 0, 0, 1, 1, 0, 0], [0, 0, 0, 0, 1, 1, 0], [0, 0, 0, 0, 1, 0, 1], [1, 1, 1, 0, 0, 0, 0], [0, 1, 1, 1, 0, 0, 0], [0, 0, 1, 1, 1, 0, 0], [0, 0, 0, 1, 1, 1, 0], [0, 0, 0, 1, 1, 0, 1], [0, 0, 0, 0, 1, 1, 1], [1, 1, 1, 1, 0, 0, 0], [0, 1, 1, 1, 1, 0, 0], [0, 0, 1, 1, 1, 1, 0], [0, 0, 1, 1, 1, 0, 1], [0, 0, 0, 1, 1, 1, 1], [1, 1, 1, 1, 1, 0, 0], [0, 1, 1, 1, 1, 1, 0], [0, 1, 1, 1, 1, 0, 1], [0, 0, 1, 1, 1, 1, 1], [0, 0, 0, 1, 2, 1, 1], [1, 1, 1, 1, 1, 1, 0], [1, 1, 1, 1, 1, 0, 1], [0, 1, 1, 1, 1, 1, 1], [0, 0, 1, 1, 2, 1, 1], [1, 1, 1, 1, 1, 1, 1], [0, 1, 1, 1, 2, 1, 1], [0, 0, 1, 2, 2, 1, 1], [1, 1, 1, 1, 2, 1, 1], [0, 1, 1, 2, 2, 1, 1], [1, 1, 1, 2, 2, 1, 1], [0, 1, 2, 2, 2, 1, 1], [1, 1, 2, 2, 2, 1, 1], [1, 2, 2, 2, 2, 1, 1]]),
  (8, 5543210, [[1, 0, 0, 0, 0, 0, 0, 0], [0, 1, 0, 0, 0, 0, 0, 0], [0, 0, 1, 0, 0, 0, 0, 0], [0, 0, 0, 1, 0, 0, 0, 0], [0, 0, 0, 0, 1, 0, 0, 0], [0, 0, 0, 0, 0, 1, 0, 0], [0, 0, 0, 0, 0, 0, 1, 0], [0, 0, 0, 0, 0, 0, 0, 1], [1, 1, 0, 0, 0, 0, 0, 0], [0, 1, 1, 0, 0, 0, 0, 0], [0, 0, 1, 1, 0, 0, 0, 0], [0, 0, 0, 1, 1, 0, 0, 0], [0, 0, 0, 0, 1, 1, 0, 0], [0, 0, 0, 0, 0, 1, 1, 0], [0, 0, 0, 0, 0, 1, 0, 1], [1, 1, 1, 0, 0, 0, 0, 0], [0, 1, 1, 1, 0, 0, 0, 0], [0, 0, 1, 1, 1, 0, 0, 0], [0, 0, 0, 1, 1, 1, 0, 0], [0, 0, 0, 0, 1, 1, 1, 0], [0, 0, 0, 0, 1, 1, 0, 1], [0, 0, 0, 0, 0, 1, 1, 1], [1, 1, 1, 1, 0, 0, 0, 0], [0, 1, 1, 1, 1, 0, 0, 0], [0, 0, 1, 1, 1, 1, 0, 0], [0, 0, 0, 1, 1, 1, 1, 0], [0, 0, 0, 1, 1, 1, 0, 1], [0, 0, 0, 0, 1, 1, 1, 1], [1, 1, 1, 1, 1, 0, 0, 0], [0, 1, 1, 1, 1, 1, 0, 0], [0, 0, 1, 1, 1, 1, 1, 0], [0, 0, 1, 1, 1, 1, 0, 1], [0, 0, 0, 1, 1, 1, 1, 1], [0, 0, 0, 0, 1, 2, 1, 1], [1, 1, 1, 1, 1, 1, 0, 0], [0, 1, 1, 1, 1, 1, 1, 0], [0, 1, 1, 1, 1, 1, 0, 1], [0, 0, 1, 1, 1, 1, 1, 1], [0, 0, 0, 1, 1, 2, 1, 1], [1, 1, 1, 1, 1, 1, 1, 0], [1, 1, 1, 1, 1, 1, 0, 1], [0, 1, 1, 1, 1, 1, 1, 1], [0, 0, 1, 1, 1, 2, 1, 1], [0, 0, 0, 1, 2, 2, 1, 1], [1, 1, 1, 1, 1, 1, 1, 1], [0, 1, 1, 1, 1, 2, 1, 1], [0, 0, 1, 1, 2, 2, 1, 1], [1, 1, 1, 1, 1, 2, 1, 1], [0, 1, 1, 1, 2, 2, 1, 1], [0, 0, 1, 2, 2, 2, 1, 1], [1, 1, 1, 1, 2, 2, 1, 1], [0, 1, 1, 2, 2, 2, 1, 1], [1, 1, 1, 2, 2, 2, 1, 1], [0, 1, 2, 2, 2, 2, 1, 1], [1, 1, 2, 2, 2, 2, 1, 1], [1, 2, 2, 2, 2, 2, 1, 1]]),
  (9, 66543210, [[1, 0, 0, 0, 0, 0, 0, 0, 0], [0, 1, 0, 0, 0, 0, 0, 0, 0], [0, 0, 1, 0, 0, 0, 0, 0, 0], [0, 0, 0, 1, 0, 0, 0, 0, 0], [0, 0, 0, 0, 1, 0, 0, 0, 0], [0, 0, 0, 0, 0, 1, 0, 0, 0], [0, 0, 0, 0, 0, 0, 1, 0, 0], [0, 0, 0, 0, 0, 0, 0, 1, 0], [0, 0, 0, 0, 0, 0, 0, 0, 1], [1, 1, 0, 0, 0, 0, 0, 0, 0], [0, 1, 1, 0, 0, 0, 0, 0, 0], [0, 0, 1, 1, 0, 0, 0, 0, 0], [0, 0, 0, 1, 1, 0, 0, 0, 0], [0, 0, 0, 0, 1, 1, 0, 0, 0], [0, 0, 0, 0, 0, 1, 1, 0, 0], [0, 0, 0, 0, 0, 0, 1, 1, 0], [0, 0, 0, 0, 0, 0, 1, 0, 1], [1, 1, 1, 0, 0, 0, 0, 0, 0], [0, 1, 1, 1, 0, 0, 0, 0, 0], [0, 0, 1, 1, 1, 0, 0, 0, 0], [0, 0, 0, 1, 1, 1, 0, 0, 0], [0, 0, 0, 0, 1, 1, 1, 0, 0], [0, 0, 0, 0, 0, 1, 1, 1, 0], [0, 0, 0, 0, 0, 1, 1, 0, 1], [0, 0, 0, 0, 0, 0, 1, 1, 1], [1, 1, 1, 1, 0, 0, 0, 0, 0], [0, 1, 1, 1, 1, 0, 0, 0, 0], [0, 0, 1, 1, 1, 1, 0, 0, 0], [0, 0, 0, 1, 1, 1, 1, 0, 0], [0, 0, 0, 0, 1, 1, 1, 1, 0], [0, 0, 0, 0, 1, 1, 1, 0, 1], [0, 0, 0, 0, 0, 1, 1, 1, 1], [1, 1, 1, 1, 1, 0, 0, 0, 0], [0, 1, 1, 1, 1, 1, 0, 0, 0], [0, 0, 1, 1, 1, 1, 1, 0, 0], [0, 0, 0, 1, 1, 1, 1, 1, 0], [0, 0, 0, 1, 1, 1, 1, 0, 1], [0, 0, 0, 0, 1, 1, 1, 1, 1], [0, 0, 0, 0, 0, 1, 2, 1, 1], [1, 1, 1, 1, 1, 1, 0, 0, 0], [0, 1, 1, 1, 1, 1, 1, 0, 0], [0, 0, 1, 1, 1, 1, 1, 1, 0], [0, 0, 1, 1, 1, 1, 1, 0, 1], [0, 0, 0, 1, 1, 1, 1, 1, 1], [0, 0, 0, 0, 1, 1, 2, 1, 1], [1, 1, 1, 1, 1, 1, 1, 0, 0], [0, 1, 1, 1, 1, 1, 1, 1, 0], [0, 1, 1, 1, 1, 1, 1, 0, 1], [0, 0, 1, 1, 1, 1, 1, 1, 1], [0, 0, 0, 1, 1, 1, 2, 1, 1], [0, 0, 0, 0, 1, 2, 2, 1, 1], [1, 1, 1, 1, 1, 1, 1, 1, 0], [1, 1, 1, 1, 1, 1, 1, 0, 1], [0, 1, 1, 1, 1, 1, 1, 1, 1], [0, 0, 1, 1, 1, 1, 2, 1, 1], [0, 0, 0, 1, 1, 2, 2, 1, 1], [1, 1, 1, 1, 1, 1, 1, 1, 1], [0, 1, 1, 1, 1, 1, 2, 1, 1], [0, 0, 1, 1, 1, 2, 2, 1, 1], [0, 0, 0, 1, 2, 2, 2, 1, 1], [1, 1, 1, 1, 1, 1, 2, 1, 1], [0, 1, 1, 1, 1, 2, 2, 1, 1], [0, 0, 1, 1, 2, 2, 2, 1, 1], [1, 1, 1, 1, 1, 2, 2, 1, 1], [0, 1, 1, 1, 2, 2, 2, 1, 1], [0, 0, 1, 2, 2, 2, 2, 1, 1], [1, 1, 1, 1, 2, 2, 2, 1, 1], [0, 1, 1, 2, 2, 2, 2, 1, 1], [1, 1, 1, 2, 2, 2, 2, 1, 1], [0, 1, 2, 2, 2, 2, 2, 1, 1], [1, 1, 2, 2, 2, 2, 2, 1, 1], [1, 2, 2, 2, 2, 2, 2, 1, 1]]),
  (6, 23210, [[1, 0, 0, 0, 0, 0], [0, 1, 0, 0, 0, 0], [0, 0, 1, 0, 0, 0], [0, 0, 0, 1, 0, 0], [0, 0, 0, 0, 1, 0], [0, 0, 0, 0, 0, 1], [1, 1, 0, 0, 0, 0], [0, 1, 1, 0, 0, 0], [0, 0, 1, 1, 0, 0], [0, 0, 1, 0, 0, 1], [0, 0, 0, 1, 1, 0], [1, 1, 1, 0, 0, 0], [0, 1, 1, 1, 0, 0], [0, 1, 1, 0, 0, 1], [0, 0, 1, 1, 1, 0], [0, 0, 1, 1, 0, 1], [1, 1, 1, 1, 0, 0], [1, 1, 1, 0, 0, 1], [0, 1, 1, 1, 1, 0], [0, 1, 1, 1, 0, 1], [0, 0, 1, 1, 1, 1], [1, 1, 1, 1, 1, 0], [1, 1, 1, 1, 0, 1], [0, 1, 1, 1, 1, 1], [0, 1, 2, 1, 0, 1], [1, 1, 1, 1, 1, 1], [1, 1, 2, 1, 0, 1], [0, 1, 2, 1, 1, 1], [1, 1, 2, 1, 1, 1], [1, 2, 2, 1, 0, 1], [0, 1, 2, 2, 1, 1], [1, 2, 2, 1, 1, 1], [1, 1, 2, 2, 1, 1], [1, 2, 2, 2, 1, 1], [1, 2, 3, 2, 1, 1], [1, 2, 3, 2, 1, 2]]),
  (7, 243210, [[1, 0, 0, 0, 0, 0, 0], [0, 1, 0, 0, 0, 0, 0], [0, 0, 1, 0, 0, 0, 0], [0, 0, 0, 1, 0, 0, 0], [0, 0, 0, 0, 1, 0, 0], [0, 0, 0, 0, 0, 1, 0], [0, 0, 0, 0, 0, 0, 1], [1, 1, 0, 0, 0, 0, 0], [0, 1, 1, 0, 0, 0, 0], [0, 0, 1, 1, 0, 0, 0], [0, 0, 1, 0, 0, 0, 1], [0, 0, 0, 1, 1, 0, 0], [0, 0, 0, 0, 1, 1, 0], [1, 1, 1, 0, 0, 0, 0], [0, 1, 1, 1, 0, 0, 0], [0, 1, 1, 0, 0, 0, 1], [0, 0, 1, 1, 1, 0, 0], [0, 0, 1, 1, 0, 0, 1], [0, 0, 0, 1, 1, 1, 0], [1, 1, 1, 1, 0, 0, 0], [1, 1, 1, 0, 0, 0, 1], [0, 1, 1, 1, 1, 0, 0], [0, 1, 1, 1, 0, 0, 1], [0, 0, 1, 1, 1, 1, 0], [0, 0, 1, 1, 1, 0, 1], [1, 1, 1, 1, 1, 0, 0], [1, 1, 1, 1, 0, 0, 1], [0, 1, 1, 1, 1, 1, 0], [0, 1, 1, 1, 1, 0, 1], [0, 1, 2, 1, 0, 0, 1], [0, 0, 1, 1, 1, 1, 1], [1, 1, 1, 1, 1, 1, 0], [1, 1, 1, 1, 1, 0, 1], [1, 1, 2, 1, 0, 0, 1], [0, 1, 1, 1, 1, 1, 1], [0, 1, 2, 1, 1, 0, 1], [1, 1, 1, 1, 1, 1, 1], [1, 1, 2, 1, 1, 0, 1], [1, 2, 2, 1, 0, 0, 1], [0, 1, 2, 1, 1, 1, 1], [0, 1, 2, 2, 1, 0, 1], [1, 1, 2, 1, 1, 1, 1], [1, 2, 2, 1, 1, 0, 1], [1, 1, 2, 2, 1, 0, 1], [0, 1, 2, 2, 1, 1, 1], [1, 2, 2, 1, 1, 1, 1], [1, 1, 2, 2, 1, 1, 1], [1, 2, 2, 2, 1, 0, 1], [0, 1, 2, 2, 2, 1, 1], [1, 2, 2, 2, 1, 1, 1], [1, 1, 2, 2, 2, 1, 1], [1, 2, 3, 2, 1, 0, 1], [1, 2, 3, 2, 1, 1, 1], [1, 2, 2, 2, 2, 1, 1], [1, 2, 3, 2, 1, 0, 2], [1, 2, 3, 2, 2, 1, 1], [1, 2, 3, 2, 1, 1, 2], [1, 2, 3, 3, 2, 1, 1], [1, 2, 3, 2, 2, 1, 2], [1, 2, 3, 3, 2, 1, 2], [1, 2, 4, 3, 2, 1, 2], [1, 3, 4, 3, 2, 1, 2], [2, 3, 4, 3, 2, 1, 2]]),
  (8, 2543210, [[1, 0, 0, 0, 0, 0, 0, 0], [0, 1, 0, 0, 0, 0, 0, 0], [0, 0, 1, 0, 0, 0, 0, 0], [0, 0, 0, 1, 0, 0, 0, 0], [0, 0, 0, 0, 1, 0, 0, 0], [0, 0, 0, 0, 0, 1, 0, 0], [0, 0, 0, 0, 0, 0, 1, 0], [0, 0, 0, 0, 0, 0, 0, 1], [1, 1, 0, 0, 0, 0, 0, 0], [0, 1, 1, 0, 0, 0, 0, 0], [0, 0, 1, 1, 0, 0, 0, 0], [0, 0, 1, 0, 0, 0, 0, 1], [0, 0, 0, 1, 1, 0, 0, 0], [0, 0, 0, 0, 1, 1, 0, 0], [0, 0, 0, 0, 0, 1, 1, 0], [1, 1, 1, 0, 0, 0, 0, 0], [0, 1, 1, 1, 0, 0, 0, 0], [0, 1, 1, 0, 0, 0, 0, 1], [0, 0, 1, 1, 1, 0, 0, 0], [0, 0, 1, 1, 0, 0, 0, 1], [0, 0, 0, 1, 1, 1, 0, 0], [0, 0, 0, 0, 1, 1, 1, 0], [1, 1, 1, 1, 0, 0, 0, 0], [1, 1, 1, 0, 0, 0, 0, 1], [0, 1, 1, 1, 1, 0, 0, 0], [0, 1, 1, 1, 0, 0, 0, 1], [0, 0, 1, 1, 1, 1, 0, 0], [0, 0, 1, 1, 1, 0, 0, 1], [0, 0, 0, 1, 1, 1, 1, 0], [1, 1, 1, 1, 1, 0, 0, 0], [1, 1, 1, 1, 0, 0, 0, 1], [0, 1, 1, 1, 1, 1, 0, 0], [0, 1, 1, 1, 1, 0, 0, 1], [0, 1, 2, 1, 0, 0, 0, 1], [0, 0, 1, 1, 1, 1, 1, 0], [0, 0, 1, 1, 1, 1, 0, 1], [1, 1, 1, 1, 1, 1, 0, 0], [1, 1, 1, 1, 1, 0, 0, 1], [1, 1, 2, 1, 0, 0, 0, 1], [0, 1, 1, 1, 1, 1, 1, 0], [0, 1, 1, 1, 1, 1, 0, 1], [0, 1, 2, 1, 1, 0, 0, 1], [0, 0, 1, 1, 1, 1, 1, 1], [1, 1, 1, 1, 1, 1, 1, 0], [1, 1, 1, 1, 1, 1, 0, 1], [1, 1, 2, 1, 1, 0, 0, 1], [1, 2, 2, 1, 0, 0, 0, 1], [0, 1, 1, 1, 1, 1, 1, 1], [0, 1, 2, 1, 1, 1, 0, 1], [0, 1, 2, 2, 1, 0, 0, 1], [1, 1, 1, 1, 1, 1, 1, 1], [1, 1, 2, 1, 1, 1, 0, 1], [1, 2, 2, 1, 1, 0, 0, 1], [1, 1, 2, 2, 1, 0, 0, 1], [0, 1, 2, 1, 1, 1, 1, 1], [0, 1, 2, 2, 1, 1, 0, 1], [1, 1, 2, 1, 1, 1, 1, 1], [1, 2, 2, 1, 1, 1, 0, 1], [1, 1, 2, 2, 1, 1, 0, 1], [1, 2, 2, 2, 1, 0, 0, 1], [0, 1, 2, 2, 1, 1, 1, 1], [0, 1, 2, 2, 2, 1, 0, 1], [1, 2, 2, 1, 1, 1, 1, 1], [1, 1, 2, 2, 1, 1, 1, 1], [1, 2, 2, 2, 1, 1, 0, 1], [1, 1, 2, 2, 2, 1, 0, 1], [1, 2, 3, 2, 1, 0, 0, 1], [0, 1, 2, 2, 2, 1, 1, 1], [1, 2, 2, 2, 1, 1, 1, 1], [1, 1, 2, 2, 2, 1, 1, 1], [1, 2, 3, 2, 1, 1, 0, 1], [1, 2, 2, 2, 2, 1, 0, 1], [1, 2, 3, 2, 1, 0, 0, 2], [0, 1, 2, 2, 2, 2, 1, 1], [1, 2, 3, 2, 1, 1, 1, 1], [1, 2, 2, 2, 2, 1, 1, 1], [1, 1, 2, 2, 2, 2, 1, 1], [1, 2, 3, 2, 2, 1, 0, 1], [1, 2, 3, 2, 1, 1, 0, 2], [1, 2, 3, 2, 2, 1, 1, 1], [1, 2, 3, 2, 1, 1, 1, 2], [1, 2, 2, 2, 2, 2, 1, 1], [1, 2, 3, 3, 2, 1, 0, 1], [1, 2, 3, 2, 2, 1, 0, 2], [1, 2, 3, 3, 2, 1, 1, 1], [1, 2, 3, 2, 2, 2, 1, 1], [1, 2, 3, 2, 2, 1, 1, 2], [1, 2, 3, 3, 2, 1, 0, 2], [1, 2, 3, 3, 2, 2, 1, 1], [1, 2, 3, 3, 2, 1, 1, 2], [1, 2, 3, 2, 2, 2, 1, 2], [1, 2, 4, 3, 2, 1, 0, 2], [1, 2, 3, 3, 3, 2, 1, 1], [1, 2, 3, 3, 2, 2, 1, 2], [1, 2, 4, 3, 2, 1, 1, 2], [1, 3, 4, 3, 2, 1, 0, 2], [1, 2, 3, 3, 3, 2, 1, 2], [1, 2, 4, 3, 2, 2, 1, 2], [1, 3, 4, 3, 2, 1, 1, 2], [2, 3, 4, 3, 2, 1, 0, 2], [1, 2, 4, 3, 3, 2, 1, 2], [1, 3, 4, 3, 2, 2, 1, 2], [2, 3, 4, 3, 2, 1, 1, 2], [1, 3, 4, 3, 3, 2, 1, 2], [1, 2, 4, 4, 3, 2, 1, 2], [2, 3, 4, 3, 2, 2, 1, 2], [2, 3, 4, 3, 3, 2, 1, 2], [1, 3, 4, 4, 3, 2, 1, 2], [2, 3, 4, 4, 3, 2, 1, 2], [1, 3, 5, 4, 3, 2, 1, 2], [2, 3, 5, 4, 3, 2, 1, 2], [1, 3, 5, 4, 3, 2, 1, 3], [2, 4, 5, 4, 3, 2, 1, 2], [2, 3, 5, 4, 3, 2, 1, 3], [2, 4, 5, 4, 3, 2, 1, 3], [2, 4, 6, 4, 3, 2, 1, 3], [2, 4, 6, 5, 3, 2, 1, 3], [2, 4, 6, 5, 4, 2, 1, 3], [2, 4, 6, 5, 4, 3, 1, 3], [2, 4, 6, 5, 4, 3, 2, 3]])]

def stT : List (Nat × Nat × Nat × Nat × List Nat × List Nat) := [
  (1, 0, 0, 0, [0, 1], [0, 1]),
  (2, 0, 0, 10, [1, 0, 2], [1, 0, 2]),
  (2, 0, 1, 10, [0, 1, 2], [0, 1, 2]),
  (3, 10, 0, 210, [1, 2, 3, 0], [3, 0, 1, 2]),
  (3, 10, 1, 110, [0, 1, 2, 3], [0, 1, 2, 3]),
  (3, 10, 2, 210, [0, 1, 2, 3], [0, 1, 2, 3]),
  (4, 210, 0, 3210, [1, 2, 3, 4, 0], [4, 0, 1, 2, 3]),
  (4, 210, 1, 2210, [3, 2, 1, 0, 4], [3, 2, 1, 0, 4]),
  (4, 210, 2, 2210, [0, 1, 2, 3, 4], [0, 1, 2, 3, 4]),
  (4, 210, 3, 3210, [0, 1, 2, 3, 4], [0, 1, 2, 3, 4]),
  (5, 3210, 0, 43210, [1, 2, 3, 4, 5, 0], [5, 0, 1, 2, 3, 4]),
  (5, 3210, 1, 33210, [4, 3, 2, 1, 0, 5], [4, 3, 2, 1, 0, 5]),
  (5, 3210, 2, 23210, [0, 1, 2, 3, 4, 5], [0, 1, 2, 3, 4, 5]),
  (5, 3210, 3, 33210, [0, 1, 2, 3, 4, 5], [0, 1, 2, 3, 4, 5]),
  (5, 3210, 4, 43210, [0, 1, 2, 3, 4, 5], [0, 1, 2, 3, 4, 5]),
  (6, 43210, 0, 543210, [1, 2, 3, 4, 5, 6, 0], [6, 0, 1, 2, 3, 4, 5]),
  (6, 43210, 1, 443210, [5, 4, 3, 2, 1, 0, 6], [5, 4, 3, 2, 1, 0, 6]),
  (6, 43210, 2, 243210, [0, 1, 2, 3, 4, 5, 6], [0, 1, 2, 3, 4, 5, 6]),
  (6, 43210, 3, 243210, [5, 4, 3, 2, 1, 0, 6], [5, 4, 3, 2, 1, 0, 6]),
  (6, 43210, 4, 443210, [0, 1, 2, 3, 4, 5, 6], [0, 1, 2, 3, 4, 5, 6]),
  (6, 43210, 5, 543210, [0, 1, 2, 3, 4, 5, 6], [0, 1, 2, 3, 4, 5, 6]),
  (7, 543210, 0, 6543210, [1, 2, 3, 4, 5, 6, 7, 0], [7, 0, 1, 2, 3, 4, 5, 6]),
  (7, 543210, 1, 5543210, [6, 5, 4, 3, 2, 1, 0, 7], [6, 5, 4, 3, 2, 1, 0, 7]),
  (7, 543210, 2, 2543210, [0, 1, 2, 3, 4, 5, 6, 7], [0, 1, 2, 3, 4, 5, 6, 7]),
  (7, 543210, 3, 0, [1, 2, 3, 4, 3, 2, 1, 2], []),
  (7, 543210, 4, 2543210, [6, 5, 4, 3, 2, 1, 0, 7], [6, 5, 4, 3, 2, 1, 0, 7]),
  (7, 543210, 5, 5543210, [0, 1, 2, 3, 4, 5, 6, 7], [0, 1, 2, 3, 4, 5, 6, 7]),
  (7, 543210, 6, 6543210, [0, 1, 2, 3, 4, 5, 6, 7], [0, 1, 2, 3, 4, 5, 6, 7]),
  (8, 6543210, 0, 76543210, [1, 2, 3, 4, 5, 6, 7, 8, 0], [8, 0, 1, 2, 3, 4, 5, 6, 7]),
  (8, 6543210, 1, 66543210, [7, 6, 5, 4, 3, 2, 1, 0, 8], [7, 6, 5, 4, 3, 2, 1, 0, 8]),
  (8, 6543210, 2, 0, [2, 4, 6, 5, 4, 3, 2, 1, 3], []),
  (8, 6543210, 3, 0, [1, 2, 3, 4, 3, 2, 1, 0, 2], []),
  (8, 6543210, 4, 0, [0, 1, 2, 3, 4, 3, 2, 1, 2], []),
  (8, 6543210, 5, 0, [1, 2, 3, 4, 5, 6, 4, 2, 3], []),
  (8, 6543210, 6, 66543210, [0, 1, 2, 3, 4, 5, 6, 7, 8], [0, 1, 2, 3, 4, 5, 6, 7, 8]),
  (8, 6543210, 7, 76543210, [0, 1, 2, 3, 4, 5, 6, 7, 8], [0, 1, 2, 3, 4, 5, 6, 7, 8]),
  (4, 110, 0, 2210, [1, 2, 3, 4, 0], [4, 0, 1, 2, 3]),
  (4, 110, 1, 0, [1, 2, 1, 1, 1], []),
  (4, 110, 2, 2210, [3, 2, 1, 4, 0], [4, 2, 1, 0, 3]),
  (4, 110, 3, 2210, [3, 2, 4, 1, 0], [4, 3, 1, 0, 2]),
  (5, 2210, 0, 33210, [1, 2, 3, 4, 5, 0], [5, 0, 1, 2, 3, 4]),
  (5, 2210, 1, 0, [1, 2, 2, 1, 1, 1], []),
  (5, 2210, 2, 0, [0, 1, 2, 1, 1, 1], []),
  (5, 2210, 3, 23210, [0, 1, 2, 3, 5, 4], [0, 1, 2, 3, 5, 4]),
  (5, 2210, 4, 23210, [0, 1, 2, 5, 3, 4], [0, 1, 2, 4, 5, 3]),
  (6, 33210, 0, 443210, [1, 2, 3, 4, 5, 6, 0], [6, 0, 1, 2, 3, 4, 5]),
  (6, 33210, 1, 0, [1, 2, 2, 2, 1, 1, 1], []),
  (6, 33210, 2, 0, [0, 1, 2, 2, 1, 1, 1], []),
  (6, 33210, 3, 0, [0, 0, 1, 2, 1, 1, 1], []),
  (6, 33210, 4, 243210, [5, 4, 3, 2, 1, 6, 0], [6, 4, 3, 2, 1, 0, 5]),
  (6, 33210, 5, 243210, [5, 4, 3, 2, 6, 1, 0], [6, 5, 3, 2, 1, 0, 4]),
  (7, 443210, 0, 5543210, [1, 2, 3, 4, 5, 6, 7, 0], [7, 0, 1, 2, 3, 4, 5, 6]),
  (7, 443210, 1, 0, [1, 2, 2, 2, 2, 1, 1, 1], []),
  (7, 443210, 2, 0, [0, 1, 2, 2, 2, 1, 1, 1], []),
  (7, 443210, 3, 0, [0, 0, 1, 2, 2, 1, 1, 1], []),
  (7, 443210, 4, 0, [0, 0, 0, 1, 2, 1, 1, 1], []),
  (7, 443210, 5, 2543210, [6, 5, 4, 3, 2, 1, 7, 0], [7, 5, 4, 3, 2, 1, 0, 6]),
  (7, 443210, 6, 2543210, [6, 5, 4, 3, 2, 7, 1, 0], [7, 6, 4, 3, 2, 1, 0, 5]),
  (8, 5543210, 0, 66543210, [1, 2, 3, 4, 5, 6, 7, 8, 0], [8, 0, 1, 2, 3, 4, 5, 6, 7]),
  (8, 5543210, 1, 0, [1, 2, 2, 2, 2, 2, 1, 1, 1], []),
  (8, 5543210, 2, 0, [0, 1, 2, 2, 2, 2, 1, 1, 1], []),
  (8, 5543210, 3, 0, [0, 0, 1, 2, 2, 2, 1, 1, 1], []),
  (8, 5543210, 4, 0, [0, 0, 0, 1, 2, 2, 1, 1, 1], []),
  (8, 5543210, 5, 0, [0, 0, 0, 0, 1, 2, 1, 1, 1], []),
  (8, 5543210, 6, 0, [1, 2, 3, 4, 5, 6, 4, 3, 2], []),
  (8, 5543210, 7, 0, [1, 2, 3, 4, 5, 6, 3, 4, 2], []),
  (6, 23210, 0, 243210, [4, 3, 2, 1, 0, 6, 5], [4, 3, 2, 1, 0, 6, 5]),
  (6, 23210, 1, 0, [1, 2, 2, 1, 0, 1, 1], []),
  (6, 23210, 2, 0, [0, 1, 2, 1, 0, 1, 1], []),
  (6, 23210, 3, 0, [0, 1, 2, 2, 1, 1, 1], []),
  (6, 23210, 4, 243210, [0, 1, 2, 3, 4, 6, 5], [0, 1, 2, 3, 4, 6, 5]),
  (6, 23210, 5, 0, [1, 2, 3, 2, 1, 2, 1], []),
  (7, 243210, 0, 0, [2, 3, 4, 3, 2, 1, 2, 1], []),
  (7, 243210, 1, 0, [1, 2, 2, 1, 0, 0, 1, 1], []),
  (7, 243210, 2, 0, [0, 1, 2, 1, 0, 0, 1, 1], []),
  (7, 243210, 3, 0, [0, 1, 2, 2, 1, 0, 1, 1], []),
  (7, 243210, 4, 0, [0, 1, 2, 2, 2, 1, 1, 1], []),
  (7, 243210, 5, 2543210, [0, 1, 2, 3, 4, 5, 7, 6], [0, 1, 2, 3, 4, 5, 7, 6]),
  (7, 243210, 6, 0, [1, 2, 3, 2, 1, 0, 2, 1], []),
  (8, 2543210, 0, 0, [2, 3, 4, 3, 2, 1, 0, 2, 1], []),
  (8, 2543210, 1, 0, [1, 2, 2, 1, 0, 0, 0, 1, 1], []),
  (8, 2543210, 2, 0, [0, 1, 2, 1, 0, 0, 0, 1, 1], []),
  (8, 2543210, 3, 0, [0, 1, 2, 2, 1, 0, 0, 1, 1], []),
  (8, 2543210, 4, 0, [0, 1, 2, 2, 2, 1, 0, 1, 1], []),
  (8, 2543210, 5, 0, [0, 1, 2, 2, 2, 2, 1, 1, 1], []),
  (8, 2543210, 6, 0, [2, 4, 6, 5, 4, 3, 2, 3, 1], []),
  (8, 2543210, 7, 0, [1, 2, 3, 2, 1, 0, 0, 2, 1], [])]

def stE (n c q : Nat) (e : Nat × Nat × Nat × Nat × List Nat × List Nat) : Bool := (e.1 == n && (e.2.1 == c && e.2.2.1 == q)) && (vecB (n + 1) (exP (dg c) n q) e.2.2.2.2.1 || (cnT.any (fun c2 => c2.1 == n + 1 && c2.2.1 == e.2.2.2.1) && isoB (n + 1) (exP (dg c) n q) (dg e.2.2.2.1) e.2.2.2.2.1 e.2.2.2.2.2))
def stB : Bool := cnT.all (fun c => c.1 == 9 || (List.range c.1).all (fun q => stT.any (stE c.1 c.2.1 q)))
def trB : Bool := cnT.all (fun c => (List.range c.1).all (fun j => j == 0 || Nat.ble (dg c.2.1 j + 1) j))
def vrA : Bool := cnT.all (fun c => vrB (dg c.2.1) c.1 c.2.2)
def dgs (Q : Nat → Nat) (n : Nat) : List Nat := (List.range n).map (fun j => nsl Q n (List.replicate n 1) j)
def edl (Q : Nat → Nat) (n : Nat) : List Nat := (dgs Q n).map (fun d => if d = 1 then 1 else 0)
def rcB (Q : Nat → Nat) (n len : Nat) : Bool := ((List.range n).all (fun j => Nat.ble ((dgs Q n).getD j 0) 2) && 2 * len == n * (n + 1)) || (List.range n).any (fun b => (Nat.ble 3 ((dgs Q n).getD b 0) && (List.range n).all (fun j => j == b || Nat.ble ((dgs Q n).getD j 0) 2)) && ((Nat.ble 2 (nsl Q n (edl Q n) b) && len == n * (n - 1)) || (Nat.ble (nsl Q n (edl Q n) b) 1 && len == (if n = 6 then 36 else if n = 7 then 63 else 120))))
def rcA : Bool := cnT.all (fun c => rcB (dg c.2.1) c.1 c.2.2.length)
theorem stB_t : stB = true := by decide +kernel
theorem trB_t : trB = true := by decide +kernel
theorem vrA_t : vrA = true := by decide +kernel
theorem rcA_t : rcA = true := by decide +kernel
theorem cnT_tr {c : Nat × Nat × List (List Nat)} (h : c ∈ cnT) : ∀ j, 1 ≤ j → j < c.1 → dg c.2.1 j < j := fun j h1 h2 => by
  have q := List.all_eq_true.1 (List.all_eq_true.1 trB_t c h) j (List.mem_range.2 h2)
  rw [Bool.or_eq_true] at q
  rcases q with q | q
  · have := eq_of_beq q; omega
  · exact Nat.le_of_ble_eq_true q
theorem cls_T : ∀ n, 1 ≤ n → n ≤ 9 → ∀ P : Nat → Nat, (∀ j, 1 ≤ j → j < n → P j < j) → kdT P n = 1 → ∃ c, c ∈ cnT ∧ c.1 = n ∧ ∃ pi ro, IsoT n P (dg c.2.1) pi ro
  | 0, h, _, _, _, _ => by omega
  | 1, _, _, P, _, _ => ⟨(1, 0, [[1]]), by decide +kernel, rfl, fun i => i, fun i => i, fun i hi => ⟨hi, rfl⟩, fun i hi => ⟨hi, rfl⟩, fun i j hi hj => by
    rw [show i = 0 by omega, show j = 0 by omega]; rfl⟩
  | n + 2, _, h9, P, hP, hk => by
    have hk1 := kdT_pre (n := n + 1) (by omega) hP hk
    obtain ⟨c, hc, e, pi, ro, hI⟩ := cls_T (n + 1) (by omega) (by omega) P (fun j h1 h2 => hP j h1 (by omega)) hk1
    have hx := iso_ex (by omega) hP (fun j h1 h2 => cnT_tr hc j h1 (by rw [e]; exact h2)) hI
    have ht := hP (n + 1) (by omega) (by omega)
    have lq := (hI.1 _ ht).1
    have q := List.all_eq_true.1 stB_t c hc
    rw [Bool.or_eq_true] at q
    rcases q with q | q
    · have := eq_of_beq q; omega
    · obtain ⟨en, _, q2⟩ := List.any_eq_true.1 (List.all_eq_true.1 q (pi (P (n + 1))) (List.mem_range.2 (by rw [e]; exact lq)))
      unfold stE at q2
      rw [Bool.and_eq_true, Bool.or_eq_true, e] at q2
      rcases q2.2 with v | v
      · obtain ⟨v1, i, v2, v3⟩ := vecB_ok v
        have := kdT_mm (n := n + 2) (by omega) hP hk (fun j => gl en.2.2.2.2.1 (if j = n + 1 then n + 1 else pi j)) (fun j hj => by
          rw [nsm_iso hx (gl en.2.2.2.2.1) hj]
          exact v1 _ (hx.1 j hj).1)
        have w := this _ (hx.2.1 i v2).1
        have w2 := (hx.2.1 i v2).2
        simp only at w w2
        rw [w2] at w
        omega
      · rw [Bool.and_eq_true] at v
        obtain ⟨c2, hc2, v1⟩ := List.any_eq_true.1 v.1
        rw [Bool.and_eq_true] at v1
        have e1 := eq_of_beq v1.1
        have e2 := eq_of_beq v1.2
        have w := iso_tr hx (isoB_ok v.2)
        rw [← e2] at w
        exact ⟨c2, hc2, e1, _, _, w⟩

/-! the lines of a tree, with other numbers -/
theorem lnF_deg {P : Nat → Nat} {L0 : Nat → Int} {n : Nat} (h0 : ∀ j, j < 9 → L0 j = 0) (hn : n ≤ 9) (hP : ∀ j, 1 ≤ j → j < n → P j < j) : ∀ k, k ≤ n → ∀ j, j < 9 → lnF P L0 k j = if j < k then nsm P k (fun _ => 1) j else 0
  | 0, _, j, hj => by rw [if_neg (by omega)]; exact h0 j hj
  | 1, _, j, hj => by
    rw [show lnF P L0 1 = L0 from rfl, h0 j hj]
    split
    · rw [show j = 0 by omega]; rfl
    · rfl
  | m + 2, hk, j, hj => by
    have ht := hP (m + 1) (by omega) (by omega)
    have ih := fun i hi => lnF_deg h0 hn hP (m + 1) (by omega) i hi
    have hP' : ∀ j, 0 < j → j ≤ m + 1 → P j < j := fun j h1 h2 => hP j h1 (by omega)
    rw [lnF_s (by omega)]
    unfold lnS
    by_cases e : j = P (m + 1)
    · rw [e, up_s, up_n _ _ (by omega), ih _ (by omega), if_pos ht, if_pos (by omega), nsm_low hP' _ (show P (m + 1) ≤ m by omega), if_pos rfl]
    · rw [up_n _ _ e]
      by_cases e2 : j = m + 1
      · rw [e2, up_s, ih _ (by omega), if_neg (by omega), if_pos (by omega), nsm_top hP']
        rfl
      · rw [up_n _ _ e2, ih _ hj]
        by_cases l : j < m + 1
        · rw [if_pos l, if_pos (by omega), nsm_low hP' _ (show j ≤ m by omega), if_neg (Ne.symm e), Int.add_zero]
        · rw [if_neg l, if_neg (by omega)]
theorem nsm_two {P : Nat → Nat} {n : Nat} (hP : ∀ j, 1 ≤ j → j < n → P j < j) (x : Nat → Int) {i : Nat} (hi : i < n) : nsm P n x i = su n (fun k => (if 0 < k ∧ k = i then x (P k) else 0) + (if 0 < k ∧ P k = i then x k else 0)) := by
  have e2 : nsm P n x i = su n (fun k => (if 0 < i ∧ P i = k then x k else 0) + (if 0 < k ∧ P k = i then x k else 0)) := by
    refine su_cg n (fun k hk => ?_)
    show (if ajT P i k then x k else 0) = _
    unfold ajT
    by_cases a : 0 < i ∧ P i = k
    · rw [if_pos a, if_pos (by simp [a]), if_neg]
      · omega
      · intro b
        have h1 := hP i a.1 hi
        have h2 := hP k b.1 hk
        omega
    · by_cases b : 0 < k ∧ P k = i
      · rw [if_neg a, if_pos b, if_pos (by simp [b])]; omega
      · rw [if_neg a, if_neg b, if_neg (by simp; exact ⟨fun q1 q2 => a ⟨q1, q2⟩, fun q1 q2 => b ⟨q1, q2⟩⟩)]; omega
  have e4 : su n (fun k => if 0 < i ∧ P i = k then x k else 0) = if 0 < i then x (P i) else 0 := by
    by_cases z : 0 < i
    · have := hP i z hi
      rw [su_one (show P i < n by omega) _ (fun k _ h => if_neg (by omega)), if_pos ⟨z, rfl⟩, if_pos z]
    · rw [if_neg z]; exact su_z n (fun k _ => if_neg (by omega))
  have e5 : su n (fun k => if 0 < k ∧ k = i then x (P k) else 0) = if 0 < i then x (P i) else 0 := by
    rw [su_one hi _ (fun k _ h => if_neg (by omega))]
    by_cases z : 0 < i
    · rw [if_pos ⟨z, rfl⟩, if_pos z]
    · rw [if_neg (by omega), if_neg z]
  rw [e2, su_add, su_add, e4, e5]
theorem ebF_ns {P : Nat → Nat} {L : Nat → Int} {n : Nat} (hP : ∀ j, 1 ≤ j → j < n → P j < j) {br : Nat} (hb : br < n) : ((ebF P L br n : Nat) : Int) = nsm P n (fun j => if L j = 1 then 1 else 0) br := by
  rw [nsm_two hP _ hb]
  have : ∀ k, k ≤ n → ((ebF P L br k : Nat) : Int) = su k (fun k => (if 0 < k ∧ k = br then (if L (P k) = 1 then 1 else 0) else 0) + (if 0 < k ∧ P k = br then (if L k = 1 then 1 else 0) else 0)) := fun k => by
    induction k with
    | zero => intro _; rfl
    | succ k ih =>
      intro hk
      rw [su_s, ← ih (by omega), ebF]
      by_cases z : k = 0
      · rw [if_pos z, z, if_neg (by omega), if_neg (by omega)]; rfl
      · rw [if_neg z]
        have l := hP k (by omega) (by omega)
        by_cases e : ebB P L br k = true
        · rw [if_pos e]
          rcases ebB_t.1 e with ⟨q1, q2⟩ | ⟨q1, q2⟩
          · rw [if_neg (by omega), if_pos ⟨by omega, q1⟩, if_pos q2]; omega
          · rw [if_pos ⟨by omega, q1⟩, if_pos q2, if_neg (by omega)]; omega
        · rw [if_neg e]
          have e1 : ¬ ebP P L br k := fun q => e (ebB_t.2 q)
          have a : (if 0 < k ∧ k = br then (if L (P k) = 1 then (1 : Int) else 0) else 0) = 0 := by
            split
            · rename_i q; rw [if_neg (fun w => e1 (Or.inr ⟨q.2, w⟩))]
            · rfl
          have b : (if 0 < k ∧ P k = br then (if L k = 1 then (1 : Int) else 0) else 0) = 0 := by
            split
            · rename_i q; rw [if_neg (fun w => e1 (Or.inl ⟨q.2, w⟩))]
            · rfl
          rw [a, b]; omega
  exact this n (Nat.le_refl _)
theorem gl_rep {n j : Nat} (h : j < n) : gl (List.replicate n 1) j = 1 := by
  unfold gl
  rw [List.getD_eq_getElem?_getD, List.getElem?_replicate, if_pos h]
  rfl
theorem dgs_at {Q : Nat → Nat} {n j : Nat} (h : j < n) : (((dgs Q n).getD j 0 : Nat) : Int) = nsm Q n (fun _ => 1) j := by
  unfold dgs
  rw [List.getD_eq_getElem?_getD, List.getElem?_map, List.getElem?_range h]
  show ((nsl Q n (List.replicate n 1) j : Nat) : Int) = _
  rw [nsl_su]
  exact nsm_cg (fun j hj => gl_rep hj) j
theorem edl_at {Q : Nat → Nat} {n j : Nat} (h : j < n) : gl (edl Q n) j = if nsm Q n (fun _ => 1) j = 1 then 1 else 0 := by
  have e := dgs_at (Q := Q) h
  unfold gl edl
  rw [List.getD_eq_getElem?_getD, List.getElem?_map]
  rw [List.getD_eq_getElem?_getD] at e
  have l : (dgs Q n).length = n := by unfold dgs; rw [List.length_map, List.length_range]
  rw [List.getElem?_eq_getElem (by omega)] at e ⊢
  simp only [Option.getD_some, Option.map_some] at e ⊢
  rw [← e]
  by_cases z : (dgs Q n)[j] = 1
  · rw [if_pos z, if_pos (by omega)]; rfl
  · rw [if_neg z, if_neg (by omega)]; rfl
/-- what the class counts is what the search finds -/
theorem fin_T {n : Nat} (hn : 1 ≤ n ∧ n ≤ 9) {P : Nat → Nat} (hP : ∀ j, 1 ≤ j → j < n → P j < j) (hk : kdT P n = 1) : ∃ Q pi ro Ls, IsoT n P Q pi ro ∧ VRL Q n Ls ∧ ∀ (L0 : Nat → Int) v, (∀ j, j < 9 → L0 j = 0) → rcP P (lnF P L0 n) n v → v = (Ls.length : Nat) := by
  obtain ⟨c, hc, e, pi, ro, hI⟩ := cls_T n hn.1 hn.2 P hP hk
  have h1 := vrB_ok (List.all_eq_true.1 vrA_t c hc)
  have h2 := List.all_eq_true.1 rcA_t c hc
  rw [e] at h1 h2
  refine ⟨dg c.2.1, pi, ro, c.2.2, hI, h1, fun L0 v h0 hr => ?_⟩
  have hL : ∀ j, j < n → lnF P L0 n j = nsm (dg c.2.1) n (fun _ => 1) (pi j) := fun j hj => by
    rw [lnF_deg h0 hn.2 hP n (Nat.le_refl _) j (by omega), if_pos hj]
    exact nsm_iso hI (fun _ => 1) hj
  unfold rcB at h2
  rw [Bool.or_eq_true] at h2
  rcases h2 with q | q
  · rw [Bool.and_eq_true] at q
    have small : ∀ j, j < n → lnF P L0 n j ≤ 2 := fun j hj => by
      have w := Nat.le_of_ble_eq_true (List.all_eq_true.1 q.1 (pi j) (List.mem_range.2 (hI.1 j hj).1))
      have w2 := dgs_at (Q := dg c.2.1) (hI.1 j hj).1
      rw [hL j hj, ← w2]
      omega
    have len := eq_of_beq q.2
    rcases hr with ⟨_, r2⟩ | ⟨br, r1, r2, _⟩
    · rw [r2]
      have z : (n : Int) * ((n : Int) + 1) = 2 * (c.2.2.length : Nat) := by
        have : ((n * (n + 1) : Nat) : Int) = ((2 * c.2.2.length : Nat) : Int) := by rw [len]
        push_cast at this
        exact this
      rw [z]
      exact Int.mul_tdiv_cancel_left _ (by decide)
    · rcases r1 with w | ⟨k, w1, w2, w3, _⟩
      · omega
      · have := small k w2
        omega
  · obtain ⟨b, hb, q2⟩ := List.any_eq_true.1 q
    have lb := List.mem_range.1 hb
    simp only [Bool.and_eq_true] at q2
    obtain ⟨⟨q3, q4⟩, q5⟩ := q2
    have big := Nat.le_of_ble_eq_true q3
    have others : ∀ j, j < n → j ≠ b → nsm (dg c.2.1) n (fun _ => 1) j ≤ 2 := fun j hj hne => by
      have w := List.all_eq_true.1 q4 j (List.mem_range.2 hj)
      rw [Bool.or_eq_true] at w
      rcases w with w | w
      · exact absurd (eq_of_beq w) hne
      · have w1 := Nat.le_of_ble_eq_true w
        have w2 := dgs_at (Q := dg c.2.1) hj
        omega
    have bigb := dgs_at (Q := dg c.2.1) lb
    have lr := (hI.2.1 b lb).1
    have er := (hI.2.1 b lb).2
    have bigT := hL (ro b) lr
    rw [er] at bigT
    rcases hr with ⟨r1, _⟩ | ⟨br, r1, r2, r3⟩
    · rcases r1 with ⟨_, w⟩ | ⟨k, w1, _⟩
      · have := w (ro b) lr
        omega
      · omega
    · have hbr : pi br = b := by
        rcases r1 with ⟨w, _⟩ | ⟨k, w1, w2, w3, _⟩
        · omega
        · have ek : br = k := by omega
          subst ek
          by_cases z : pi br = b
          · exact z
          · have := others (pi br) (hI.1 br r2).1 z
            rw [← hL br r2] at this
            omega
      have ends : ((ebF P (lnF P L0 n) br n : Nat) : Int) = ((nsl (dg c.2.1) n (edl (dg c.2.1) n) b : Nat) : Int) := by
        rw [ebF_ns hP r2, nsl_su, ← hbr, ← nsm_iso hI (gl (edl (dg c.2.1) n)) r2]
        refine nsm_cg (fun j hj => ?_) br
        show _ = gl (edl (dg c.2.1) n) (pi j)
        rw [edl_at (hI.1 j hj).1, hL j hj]
      rw [Bool.or_eq_true, Bool.and_eq_true, Bool.and_eq_true] at q5
      rcases q5 with ⟨z1, z2⟩ | ⟨z1, z2⟩
      · have w1 := Nat.le_of_ble_eq_true z1
        have w2 := eq_of_beq z2
        rcases r3 with ⟨_, t2⟩ | ⟨t1, _⟩
        · rw [t2, w2]
          obtain ⟨m, rfl⟩ : ∃ m, n = m + 1 := ⟨n - 1, by omega⟩
          rw [Nat.add_sub_cancel]
          push_cast
          rw [show ((m : Int) + 1 - 1) = m by omega]
        · omega
      · have w1 := Nat.le_of_ble_eq_true z1
        have w2 := eq_of_beq z2
        rcases r3 with ⟨t1, _⟩ | ⟨_, t2⟩
        · omega
        · rw [t2, w2]
          split
          · rfl
          · split <;> rfl

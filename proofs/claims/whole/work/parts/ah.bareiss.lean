/-! the square made triangular without fractions -/
def fb (n : Nat) : Nat := match n with | 0 => 1 | n + 1 => 2 * (n + 1) * fb n
theorem fb_s (n : Nat) : fb (n + 1) = 2 * (n + 1) * fb n := rfl
theorem su_abs (b : Nat) (f : Nat → Int) : ∀ n, (∀ i, i < n → (f i).natAbs ≤ b) → (su n f).natAbs ≤ n * b
  | 0, _ => by rw [su_0]; exact Nat.zero_le _
  | n + 1, h => by
    rw [su_s, Nat.succ_mul]
    have h1 := su_abs b f n (fun i hi => h i (by omega))
    have h2 := h n (by omega)
    omega
theorem sg_abs (k : Nat) : (sg k).natAbs = 1 := by unfold sg; split <;> rfl
theorem det_abs : ∀ (n : Nat) (A : Nat → Nat → Int), (∀ i j, (A i j).natAbs ≤ 2) → (det n A).natAbs ≤ fb n
  | 0, _, _ => Nat.le_refl _
  | n + 1, A, h => by
    rw [det_s, fb_s, Nat.mul_comm 2, Nat.mul_assoc]
    refine su_abs (2 * fb n) _ (n + 1) (fun c _ => ?_)
    rw [Int.natAbs_mul, Int.natAbs_mul, sg_abs, Nat.one_mul]
    exact Nat.mul_le_mul (h n c) (det_abs n _ (fun i j => h i _))
theorem fb_9 : ∀ {n : Nat}, n ≤ 9 → fb n ≤ 185794560 := by
  intro n h
  have : n = 0 ∨ n = 1 ∨ n = 2 ∨ n = 3 ∨ n = 4 ∨ n = 5 ∨ n = 6 ∨ n = 7 ∨ n = 8 ∨ n = 9 := by omega
  rcases this with q | q | q | q | q | q | q | q | q | q <;> subst q <;> decide
def pr (A : Nat → Nat → Int) (o : Nat → Nat) : Nat → Nat → Int := fun i j => A (o i) j
theorem pr_abs {A : Nat → Nat → Int} (h : ∀ i j, (A i j).natAbs ≤ 2) (o : Nat → Nat) (s i j : Nat) (hs : s < 9) : (mn (pr A o) s i j).natAbs ≤ 185794560 :=
  Nat.le_trans (det_abs (s + 1) _ (fun a b => h _ _)) (fb_9 (by omega))
theorem pr_absD {A : Nat → Nat → Int} (h : ∀ i j, (A i j).natAbs ≤ 2) (o : Nat → Nat) (s : Nat) (hs : s ≤ 9) : (det s (pr A o)).natAbs ≤ 185794560 :=
  Nat.le_trans (det_abs s _ (fun a b => h _ _)) (fb_9 hs)
theorem det_dead (A : Nat → Nat → Int) (m s : Nat) (o : Nat → Nat) (hs : s < m) (hsym : ∀ i j, i < m → j < m → A i j = A j i)
    (hD : det s (pr A o) ≠ 0) (hsur : ∀ i, i < m → ∃ k, k < m ∧ o k = i) (h0 : ∀ i, s ≤ i → i < m → mn (pr A o) s i s = 0) : det m A = 0 := by
  have h1 : ∀ i, i < m → su s (fun c => A i c * crx (pr A o) s s c) + A i s * det s (pr A o) = 0 := fun i hi => by
    obtain ⟨k, hk, rfl⟩ := hsur i hi
    rw [show su s (fun c => A (o k) c * crx (pr A o) s s c) + A (o k) s * det s (pr A o) = mn (pr A o) s k s from (mn_x (pr A o) s k s).symm]
    by_cases l : k < s
    · exact mn_0 _ s l
    · exact h0 k (by omega) hk
  have h2 := det_lin m A s (A s) (A s) (det s (pr A o)) 0 hs
  rw [setR_i, Int.zero_mul, Int.add_zero] at h2
  have h3 := det_sum m A hs (fun c => - crx (pr A o) s s c) s (Nat.le_refl _)
  rw [det_cg m (A := setR A s (fun j => det s (pr A o) * A s j + 0 * A s j)) (B := setR A s (fun j => su s (fun c => - crx (pr A o) s s c * A c j))) (fun i j hi hj => by
    by_cases e : i = s
    · subst e
      rw [setR_e, setR_e]
      have q := h1 j hj
      have q2 : su i (fun c => - crx (pr A o) i i c * A c j) = (-1) * su i (fun c => A j c * crx (pr A o) i i c) := by
        rw [← su_mul]
        exact su_cg _ (fun c hc => by rw [hsym j c hj (by omega)]; grind)
      rw [q2, hsym i j hi hj]
      grind
    · rw [setR_n _ _ _ e, setR_n _ _ _ e]), h3] at h2
  rcases Int.mul_eq_zero.1 h2.symm with q | q
  · exact absurd q hD
  · exact q
/-- two rows changed -/
def ow (o : Nat → Nat) (p s : Nat) : Nat → Nat := fun i => if i = s then o p else if i = p then o s else o i
theorem ow_det (A : Nat → Nat → Int) (o : Nat → Nat) {p s m : Nat} (hp : p < m) (hs : s < m) (h : p ≠ s) : det m (pr A (ow o p s)) = - det m (pr A o) := by
  rw [← det_swap m (pr A o) hp hs h]
  congr 1
  funext i j
  show A (ow o p s i) j = _
  unfold ow
  by_cases e1 : i = s
  · subst e1; rw [if_pos rfl, setR_e]; rfl
  · rw [if_neg e1, setR_n _ _ _ e1]
    by_cases e2 : i = p
    · subst e2; rw [if_pos rfl, setR_e]; rfl
    · rw [if_neg e2, setR_n _ _ _ e2]; rfl
theorem ow_low (A : Nat → Nat → Int) (o : Nat → Nat) {p s t : Nat} (hp : s ≤ p) (ht : t ≤ s) : det t (pr A (ow o p s)) = det t (pr A o) :=
  det_cg t (fun i j hi _ => by show A (ow o p s i) j = A (o i) j; unfold ow; rw [if_neg (by omega), if_neg (by omega)])
theorem ow_mn (A : Nat → Nat → Int) (o : Nat → Nat) {p s : Nat} (hp : s ≤ p) (i k : Nat) : mn (pr A (ow o p s)) s i k = mn (pr A o) s (if i = s then p else if i = p then s else i) k :=
  det_cg (s + 1) (fun r c hr _ => by
    show A (ow o p s (if r = s then i else r)) _ = A (o (if r = s then _ else r)) _
    by_cases e : r = s
    · rw [if_pos e, if_pos e]
      unfold ow
      by_cases e1 : i = s
      · rw [if_pos e1, if_pos e1]
      · rw [if_neg e1, if_neg e1]
        by_cases e2 : i = p
        · rw [if_pos e2, if_pos e2]
        · rw [if_neg e2, if_neg e2]
    · rw [if_neg e, if_neg e]
      unfold ow
      rw [if_neg e, if_neg (by omega)])
theorem ow_sur (o : Nat → Nat) {p s m : Nat} (hp : p < m) (hs : s < m) (hsur : ∀ i, i < m → ∃ k, k < m ∧ o k = i) : ∀ i, i < m → ∃ k, k < m ∧ ow o p s k = i := fun i hi => by
  obtain ⟨k, hk, e⟩ := hsur i hi
  by_cases e1 : k = s
  · subst e1
    by_cases e2 : p = k
    · exact ⟨k, hk, by unfold ow; rw [if_pos rfl, e2]; exact e⟩
    · exact ⟨p, hp, by unfold ow; rw [if_neg e2, if_pos rfl]; exact e⟩
  · by_cases e2 : k = p
    · subst e2
      exact ⟨s, hs, by unfold ow; rw [if_pos rfl]; exact e⟩
    · exact ⟨k, hk, by unfold ow; rw [if_neg e1, if_neg e2]; exact e⟩
theorem mn_1 (A : Nat → Nat → Int) (i j : Nat) : mn A 0 i j = A i j := by
  rw [mn_x, su_0, show det 0 A = 1 from rfl]; omega
theorem mn_div (A : Nat → Nat → Int) (s i j : Nat) (hd : ∀ t, t ≤ s + 1 → det t A ≠ 0) :
    (mn A s i j * mn A s s s - mn A s i s * mn A s s j).tdiv (det s A) = mn A (s + 1) i j := by
  rw [← mn_syl A s i j hd]
  exact Int.mul_tdiv_cancel _ (hd s (by omega))
/-! trees: squares made whole -/
def ajT (P : Nat → Nat) (i j : Nat) : Bool := (decide (0 < i) && P i == j) || (decide (0 < j) && P j == i)
def VM (P : Nat → Nat) (a b : Nat → Int) : Nat → Nat → Int := fun i j => if i = j then a i else if ajT P i j then - b i else 0
def uaT (P : Nat → Nat) (k : Nat) (a b : Nat → Int) : Nat → Int := fun i => if i = P k then a i * a k - b i * b k else a i
def ubT (P : Nat → Nat) (k : Nat) (a b : Nat → Int) : Nat → Int := fun i => if i = P k then b i * a k else b i
def VE (P : Nat → Nat) (e : Nat → Nat) (a b : Nat → Int) : Nat → Nat → Int := fun i j => VM P a b (e i) (e j)
theorem VE_step (P : Nat → Nat) (e : Nat → Nat) (a b : Nat → Int) (m r : Nat) (hr : r < m) (hinc : ∀ i j, i < j → j ≤ m → e i < e j)
    (hP : ∀ k, 0 < k → P k < k ∨ ¬ k ≤ e m) (hk : P (e m) = e r) (ha : a (e m) ≠ 0) :
    det (m + 1) (VE P e a b) = det m (VE P e (uaT P (e m) a b) (ubT P (e m) a b)) := by
  have hkr : e r < e m := hinc r m hr (Nat.le_refl _)
  have hinj : ∀ i, i ≤ m → i ≠ r → e i ≠ e r := fun i hi hn => by
    by_cases l : i < r
    · have := hinc i r l (by omega); omega
    · have := hinc r i (by omega) hi; omega
  have q := det_lin (m + 1) (VE P e a b) r (VE P e a b r) (VE P e a b m) (a (e m)) (b (e r)) (by omega)
  rw [setR_i, det_same (m + 1) (setR (VE P e a b) r (VE P e a b m)) (show r < m + 1 by omega) (show m < m + 1 by omega) (by omega) (fun j => by rw [setR_e, setR_n _ _ _ (by omega)]), Int.mul_zero, Int.add_zero] at q
  have hAj : ajT P (e r) (e m) = true := by
    unfold ajT; rw [hk]; simp; omega
  have hAj2 : ajT P (e m) (e r) = true := by
    unfold ajT; rw [hk]; simp; omega
  rw [det_lc m _ (fun i hi => by
    by_cases e1 : i = r
    · subst e1
      rw [setR_e]
      show a (e m) * VM P a b (e i) (e m) + b (e i) * VM P a b (e m) (e m) = 0
      unfold VM
      rw [if_neg (by omega), if_pos rfl, if_pos hAj]
      grind
    · rw [setR_n _ _ _ e1]
      show VM P a b (e i) (e m) = 0
      have l1 := hinc i m hi (Nat.le_refl _)
      unfold VM
      rw [if_neg (by omega), if_neg]
      unfold ajT
      have l2 := hinj i (by omega) e1
      have l3 : 0 < e i → P (e i) ≠ e m := fun h => by
        rcases hP (e i) h with g | g <;> omega
      simp [hk]
      exact ⟨l3, fun _ h => l2 h.symm⟩), setR_n _ _ _ (by omega)] at q
  rw [show VE P e a b m m = a (e m) from by show VM P a b (e m) (e m) = _; unfold VM; rw [if_pos rfl]] at q
  have q2 := Int.eq_of_mul_eq_mul_left ha q
  rw [← q2]
  refine det_cg m (fun i j hi hj => ?_)
  by_cases e1 : i = r
  · subst e1
    rw [setR_e]
    show a (e m) * VM P a b (e i) (e j) + b (e i) * VM P a b (e m) (e j) = VM P _ _ (e i) (e j)
    by_cases e2 : j = i
    · subst e2
      unfold VM uaT ubT
      rw [if_pos rfl, if_pos rfl, if_neg (by omega), if_pos hAj2, if_pos hk.symm]
      grind
    · have l2 := hinj j (by omega) e2
      have l1 := hinc j m hj (Nat.le_refl _)
      have z : VM P a b (e m) (e j) = 0 := by
        unfold VM
        rw [if_neg (by omega), if_neg]
        unfold ajT
        have l3 : 0 < e j → P (e j) ≠ e m := fun h => by
          rcases hP (e j) h with g | g <;> omega
        simp [hk]
        exact ⟨fun _ h => l2 h.symm, l3⟩
      rw [z]
      unfold VM ubT
      rw [if_neg (Ne.symm l2), if_neg (Ne.symm l2), if_pos hk.symm]
      split <;> grind
  · rw [setR_n _ _ _ e1]
    have l2 := hinj i (by omega) e1
    show VM P a b (e i) (e j) = VM P _ _ (e i) (e j)
    unfold VM uaT ubT
    rw [hk, if_neg l2, if_neg l2]
theorem VE_alone (P : Nat → Nat) (e : Nat → Nat) (a b : Nat → Int) (m : Nat) (hinc : ∀ i j, i < j → j ≤ m → e i < e j)
    (hP : ∀ k, 0 < k → P k < k ∨ ¬ k ≤ e m) (hk : ∀ r, r < m → P (e m) ≠ e r) : det (m + 1) (VE P e a b) = a (e m) * det m (VE P e a b) := by
  rw [det_lr m _ (fun c hc => by
    have l1 := hinc c m hc (Nat.le_refl _)
    show VM P a b (e m) (e c) = 0
    unfold VM
    rw [if_neg (by omega), if_neg]
    unfold ajT
    have l2 := hk c hc
    have l3 : 0 < e c → P (e c) ≠ e m := fun h => by
      rcases hP (e c) h with g | g <;> omega
    simp
    exact ⟨fun _ => l2, l3⟩)]
  rw [show VE P e a b m m = a (e m) from by show VM P a b (e m) (e m) = _; unfold VM; rw [if_pos rfl]]

/-! determinants of whole numbers, by the last row -/
def sg (k : Nat) : Int := if k % 2 = 0 then 1 else -1
theorem sg_s (k : Nat) : sg (k + 1) = - sg k := by
  unfold sg; split <;> split <;> omega
theorem sg_2 (k : Nat) : sg (k + k) = 1 := by unfold sg; rw [if_pos (by omega)]
theorem sg_q (k : Nat) : sg k * sg k = 1 := by unfold sg; split <;> omega
theorem sg_a (k : Nat) (j : Nat) : sg (k + j) = sg k * sg j := by
  induction j with
  | zero => rw [Nat.add_zero, show sg 0 = 1 from rfl]; omega
  | succ j ih => rw [← Nat.add_assoc, sg_s, sg_s, ih]; grind
def skp (c j : Nat) : Nat := if j < c then j else j + 1
def det (n : Nat) (A : Nat → Nat → Int) : Int := match n with
  | 0 => 1
  | n + 1 => su (n + 1) (fun c => A n c * (sg (c + n) * det n (fun i j => A i (skp c j))))
theorem det_s (n : Nat) (A : Nat → Nat → Int) : det (n + 1) A = su (n + 1) (fun c => A n c * (sg (c + n) * det n (fun i j => A i (skp c j)))) := rfl
theorem det_cg : ∀ (n : Nat) {A B : Nat → Nat → Int}, (∀ i j, i < n → j < n → A i j = B i j) → det n A = det n B
  | 0, _, _, _ => rfl
  | n + 1, A, B, h => by
    rw [det_s, det_s]
    refine su_cg _ (fun c hc => ?_)
    rw [h n c (by omega) hc, det_cg n (A := fun i j => A i (skp c j)) (B := fun i j => B i (skp c j)) (fun i j hi hj => h i _ (by omega) (by unfold skp; split <;> omega))]
def setR (A : Nat → Nat → Int) (r : Nat) (u : Nat → Int) : Nat → Nat → Int := fun i j => if i = r then u j else A i j
theorem setR_e (A : Nat → Nat → Int) (r : Nat) (u : Nat → Int) (j : Nat) : setR A r u r j = u j := if_pos rfl
theorem setR_n (A : Nat → Nat → Int) {r i : Nat} (u : Nat → Int) (j : Nat) (h : i ≠ r) : setR A r u i j = A i j := if_neg h
theorem det_lin : ∀ (n : Nat) (A : Nat → Nat → Int) (r : Nat) (u v : Nat → Int) (x y : Int), r < n → det n (setR A r (fun j => x * u j + y * v j)) = x * det n (setR A r u) + y * det n (setR A r v)
  | 0, _, _, _, _, _, _, h => by omega
  | n + 1, A, r, u, v, x, y, h => by
    rw [det_s, det_s, det_s, ← su_mul, ← su_mul, ← su_add]
    refine su_cg _ (fun c hc => ?_)
    by_cases e : r = n
    · subst e
      have q : ∀ w : Nat → Int, det r (fun i j => setR A r w i (skp c j)) = det r (fun i j => A i (skp c j)) := fun w => det_cg r (fun i j hi _ => setR_n A w _ (by omega))
      rw [q, q, q, setR_e, setR_e, setR_e]
      grind
    · rw [setR_n A _ _ (Ne.symm e), setR_n A _ _ (Ne.symm e), setR_n A _ _ (Ne.symm e)]
      have q := det_lin n (fun i j => A i (skp c j)) r (fun j => u (skp c j)) (fun j => v (skp c j)) x y (by omega)
      have q1 : det n (fun i j => setR A r (fun j => x * u j + y * v j) i (skp c j)) = x * det n (fun i j => setR A r u i (skp c j)) + y * det n (fun i j => setR A r v i (skp c j)) := q
      rw [q1]
      grind
theorem su_tri : ∀ (N : Nat) (F : Nat → Nat → Int), (∀ c d, d < c → c ≤ N → F c d = - F d (c - 1)) → su (N + 1) (fun c => su N (F c)) = 0
  | 0, F, _ => by rw [su_s, su_0]; rfl
  | N + 1, F, h => by
    rw [su_s]
    have e1 : su (N + 1) (fun c => su (N + 1) (F c)) = su (N + 1) (fun c => su N (F c)) + su (N + 1) (fun c => F c N) := by
      rw [← su_add]
      exact su_cg _ (fun c _ => su_s N (F c))
    have e2 : su (N + 1) (F (N + 1)) = su (N + 1) (fun d => (-1) * F d N) := su_cg _ (fun d hd => by
      have := h (N + 1) d hd (Nat.le_refl _)
      rw [Nat.add_sub_cancel] at this
      omega)
    rw [e1, e2, su_mul, su_tri N F (fun c d h1 h2 => h c d h1 (by omega))]
    omega
theorem det_adj : ∀ (n : Nat) (A : Nat → Nat → Int) (r : Nat), r + 1 < n → (∀ j, A r j = A (r + 1) j) → det n A = 0
  | 0, _, _, h, _ => by omega
  | 1, _, _, h, _ => by omega
  | m + 2, A, r, h, he => by
    by_cases e : r = m
    · subst e
      rw [det_s]
      have q : su (r + 1 + 1) (fun c => A (r + 1) c * (sg (c + (r + 1)) * det (r + 1) (fun i j => A i (skp c j)))) = su (r + 1 + 1) (fun c => su (r + 1) (fun d => A (r + 1) c * (sg (c + (r + 1)) * (A r (skp c d) * (sg (d + r) * det r (fun i j => A i (skp c (skp d j)))))))) := by
        refine su_cg _ (fun c _ => ?_)
        rw [det_s, ← su_mul, ← su_mul]
      rw [q]
      refine su_tri (r + 1) _ (fun c d hdc hc => ?_)
      obtain ⟨c, rfl⟩ : ∃ k, c = k + 1 := ⟨c - 1, by omega⟩
      rw [Nat.add_sub_cancel]
      have k1 : skp (c + 1) d = d := if_pos hdc
      have k2 : skp d c = c + 1 := if_neg (by omega)
      have k3 : (fun i j => A i (skp (c + 1) (skp d j))) = (fun i j => A i (skp d (skp c j))) := by
        funext i j
        congr 1
        unfold skp
        split <;> split <;> split <;> (try split) <;> omega
      rw [k1, k2, k3, he d, he (c + 1), show c + 1 + (r + 1) = c + r + 1 + 1 from by omega, show d + (r + 1) = d + r + 1 from by omega, sg_s, sg_s, sg_s]
      grind
    · rw [det_s]
      refine su_z _ (fun c _ => ?_)
      rw [det_adj (m + 1) (fun i j => A i (skp c j)) r (by omega) (fun j => he _)]
      omega
theorem setR_i (A : Nat → Nat → Int) (r : Nat) : setR A r (A r) = A := by
  funext i j; unfold setR; split
  · rename_i h; rw [h]
  · rfl
theorem setR_c (A : Nat → Nat → Int) {r s : Nat} (u v : Nat → Int) (h : r ≠ s) : setR (setR A r u) s v = setR (setR A s v) r u := by
  funext i j; unfold setR
  by_cases e : i = r
  · rw [if_neg (show ¬ i = s from fun q => h (e.symm.trans q)), if_pos e, if_pos e]
  · rw [if_neg e, if_neg e]
/-- where two like rows give nothing, two rows changed give the other sign -/
theorem det_sw0 (n : Nat) (A : Nat → Nat → Int) (r s : Nat) (hr : r < n) (hs : s < n) (hrs : r ≠ s)
    (h0 : ∀ u, det n (setR (setR A r u) s u) = 0) : det n (setR (setR A r (A s)) s (A r)) = - det n A := by
  have l := h0 (fun j => 1 * A r j + 1 * A s j)
  rw [det_lin n _ s (A r) (A s) 1 1 hs] at l
  rw [setR_c A _ _ hrs, setR_c A _ _ hrs, det_lin n _ r (A r) (A s) 1 1 hr, det_lin n _ r (A r) (A s) 1 1 hr] at l
  rw [← setR_c A (A r) _ hrs, ← setR_c A (A s) _ hrs, ← setR_c A (A r) _ hrs, ← setR_c A (A s) _ hrs, h0, h0, setR_i A r, setR_i A s] at l
  omega
theorem det_eq0 : ∀ (k n : Nat) (A : Nat → Nat → Int) (r : Nat), r + k + 1 < n → (∀ j, A r j = A (r + k + 1) j) → det n A = 0
  | 0, n, A, r, h, he => det_adj n A r h he
  | k + 1, n, A, r, h, he => by
    have q := det_sw0 n A (r + k + 1) (r + k + 2) (by omega) (by omega) (by omega) (fun u => det_adj n _ (r + k + 1) (by omega) (fun j => by
      rw [setR_n _ _ _ (show r + k + 1 ≠ r + k + 2 by omega), setR_e]
      exact (setR_e _ (r + k + 2) u j).symm))
    have q2 := det_eq0 k n (setR (setR A (r + k + 1) (A (r + k + 2))) (r + k + 2) (A (r + k + 1))) r (by omega) (fun j => by
      rw [setR_n _ _ _ (show r ≠ r + k + 2 by omega), setR_n _ _ _ (show r ≠ r + k + 1 by omega), setR_n _ _ _ (show r + k + 1 ≠ r + k + 2 by omega), setR_e]
      exact he j)
    omega
theorem det_same (n : Nat) (A : Nat → Nat → Int) {r s : Nat} (hr : r < n) (hs : s < n) (h : r ≠ s) (he : ∀ j, A r j = A s j) : det n A = 0 := by
  by_cases l : r < s
  · obtain ⟨k, rfl⟩ : ∃ k, s = r + k + 1 := ⟨s - r - 1, by omega⟩
    exact det_eq0 k n A r hs he
  · obtain ⟨k, rfl⟩ : ∃ k, r = s + k + 1 := ⟨r - s - 1, by omega⟩
    exact det_eq0 k n A s hr (fun j => (he j).symm)
theorem det_swap (n : Nat) (A : Nat → Nat → Int) {r s : Nat} (hr : r < n) (hs : s < n) (h : r ≠ s) : det n (setR (setR A r (A s)) s (A r)) = - det n A :=
  det_sw0 n A r s hr hs h (fun u => det_same n _ hr hs h (fun j => by rw [setR_n _ _ _ h, setR_e, setR_e]))
theorem det_col0 : ∀ (n : Nat) (A : Nat → Nat → Int) (c : Nat), c < n → (∀ i, i < n → A i c = 0) → det n A = 0
  | 0, _, _, h, _ => by omega
  | n + 1, A, c, h, he => by
    rw [det_s]
    refine su_z _ (fun d hd => ?_)
    by_cases e : d = c
    · rw [e, he n (by omega)]; omega
    · have q : det n (fun i j => A i (skp d j)) = 0 := by
        by_cases l : c < d
        · exact det_col0 n _ c (by omega) (fun i hi => by show A i (skp d c) = 0; rw [show skp d c = c from if_pos l]; exact he i (by omega))
        · exact det_col0 n _ (c - 1) (by omega) (fun i hi => by show A i (skp d (c - 1)) = 0; rw [show skp d (c - 1) = c from (if_neg (by omega)).trans (by omega)]; exact he i (by omega))
      rw [q]; omega
theorem det_lc (n : Nat) (A : Nat → Nat → Int) (h : ∀ i, i < n → A i n = 0) : det (n + 1) A = A n n * det n A := by
  rw [det_s, su_s, su_z n (fun c hc => ?_)]
  · rw [sg_2, det_cg n (A := fun i j => A i (skp n j)) (B := A) (fun i j hi hj => by show A i (skp n j) = A i j; rw [show skp n j = j from if_pos hj])]
    grind
  · rw [det_col0 n (fun i j => A i (skp c j)) (n - 1) (by omega) (fun i hi => by show A i (skp c (n - 1)) = 0; rw [show skp c (n - 1) = n from (if_neg (by omega)).trans (by omega)]; exact h i hi)]
    omega
theorem det_lr (n : Nat) (A : Nat → Nat → Int) (h : ∀ c, c < n → A n c = 0) : det (n + 1) A = A n n * det n A := by
  rw [det_s, su_s, su_z n (fun c hc => by rw [h c hc]; omega)]
  rw [sg_2, det_cg n (A := fun i j => A i (skp n j)) (B := A) (fun i j hi hj => by show A i (skp n j) = A i j; rw [show skp n j = j from if_pos hj])]
  grind
/-- a row that is a sum of the others -/
theorem det_sum (n : Nat) (A : Nat → Nat → Int) {s : Nat} (hs : s < n) (x : Nat → Int) : ∀ m, m ≤ s → det n (setR A s (fun j => su m (fun c => x c * A c j))) = 0
  | 0, _ => by
    have q := det_lin n A s (fun _ => 0) (fun _ => 0) 0 0 hs
    simp only [Int.zero_mul, Int.add_zero] at q
    exact q
  | m + 1, h => by
    have q := det_lin n A s (fun j => su m (fun c => x c * A c j)) (A m) 1 (x m) hs
    rw [det_sum n A hs x m (by omega), det_same n (setR A s (A m)) (show m < n by omega) hs (by omega) (fun j => by rw [setR_n _ _ _ (show m ≠ s by omega), setR_e])] at q
    simp only [Int.one_mul, Int.mul_zero, Int.add_zero] at q
    exact q
/-! the minors of the first rows and columns, with one more -/
def bd (A : Nat → Nat → Int) (s i j : Nat) : Nat → Nat → Int := fun r c => A (if r = s then i else r) (if c = s then j else c)
def mn (A : Nat → Nat → Int) (s i j : Nat) : Int := det (s + 1) (bd A s i j)
def crx (A : Nat → Nat → Int) (s j c : Nat) : Int := sg (c + s) * det s (fun r k => A r (if skp c k = s then j else skp c k))
theorem mn_x (A : Nat → Nat → Int) (s i j : Nat) : mn A s i j = su s (fun c => A i c * crx A s j c) + A i j * det s A := by
  unfold mn
  rw [det_s, su_s]
  have q : ∀ c, det s (fun r k => bd A s i j r (skp c k)) = det s (fun r k => A r (if skp c k = s then j else skp c k)) := fun c => det_cg s (fun r k hr _ => by show A (if r = s then i else r) _ = _; rw [if_neg (by omega)])
  congr 1
  · refine su_cg s (fun c hc => ?_)
    rw [q c, show bd A s i j s c = A i c from by show A (if s = s then i else s) (if c = s then j else c) = _; rw [if_pos rfl, if_neg (by omega)]]
    rfl
  · rw [q s, sg_2, show bd A s i j s s = A i j from by show A (if s = s then i else s) (if s = s then j else s) = _; rw [if_pos rfl, if_pos rfl]]
    rw [det_cg s (A := fun r k => A r (if skp s k = s then j else skp s k)) (B := A) (fun r k _ hk => by
      show A r (if skp s k = s then j else skp s k) = A r k
      rw [show skp s k = k from if_pos hk, if_neg (by omega)])]
    grind
theorem mn_d (A : Nat → Nat → Int) (s : Nat) : mn A s s s = det (s + 1) A := det_cg _ (fun i j _ _ => by
  show A (if i = s then s else i) (if j = s then s else j) = A i j
  rw [show (if i = s then s else i) = i from by split <;> omega, show (if j = s then s else j) = j from by split <;> omega])
theorem mn_0 (A : Nat → Nat → Int) {s i : Nat} (j : Nat) (hi : i < s) : mn A s i j = 0 :=
  det_same (s + 1) _ (show i < s + 1 by omega) (show s < s + 1 by omega) (by omega) (fun k => by
    show A (if i = s then i else i) _ = A (if s = s then i else s) _
    rw [if_pos rfl, if_neg (by omega)])
theorem det_ker (A : Nat → Nat → Int) : ∀ (s : Nat), (∀ t, t ≤ s → det t A ≠ 0) → ∀ z : Nat → Int, (∀ i, i < s → su s (fun c => A i c * z c) = 0) → ∀ c, c < s → z c = 0
  | 0, _, _, _, c, hc => by omega
  | s + 1, hd, z, h, c, hc => by
    have hD := hd s (by omega)
    have k1 := det_ker A s (fun t ht => hd t (by omega)) (fun c => det s A * z c - z s * crx A s s c) (fun i hi => by
      have e1 := h i (by omega)
      rw [su_s] at e1
      have e2 := mn_x A s i s
      rw [mn_0 A s hi] at e2
      have e3 : su s (fun c => A i c * (det s A * z c - z s * crx A s s c)) = det s A * su s (fun c => A i c * z c) - z s * su s (fun c => A i c * crx A s s c) := by
        rw [← su_mul, ← su_mul, ← su_sub]
        exact su_cg _ (fun c _ => by grind)
      rw [e3]
      grind)
    have k2 : z s = 0 := by
      have e1 := h s (by omega)
      rw [su_s] at e1
      have e2 := mn_x A s s s
      rw [mn_d] at e2
      have e3 : det s A * su s (fun c => A s c * z c) = z s * su s (fun c => A s c * crx A s s c) := by
        rw [← su_mul, ← su_mul]
        refine su_cg _ (fun c hc => ?_)
        have := k1 c hc
        grind
      have e4 : z s * det (s + 1) A = 0 := by grind
      rcases Int.mul_eq_zero.1 e4 with q | q
      · exact q
      · exact absurd q (hd (s + 1) (Nat.le_refl _))
    by_cases e : c = s
    · rw [e]; exact k2
    · have := k1 c (by omega)
      simp only [k2, Int.zero_mul, Int.sub_zero] at this
      rcases Int.mul_eq_zero.1 this with q | q
      · exact absurd q hD
      · exact q
theorem mn_syl (A : Nat → Nat → Int) (s i j : Nat) (hd : ∀ t, t ≤ s + 1 → det t A ≠ 0) :
    mn A (s + 1) i j * det s A = mn A s i j * mn A s s s - mn A s i s * mn A s s j := by
  have hE : ∀ i, su (s + 1) (fun c => A i c * (if c = s then det s A * crx A (s + 1) j s + mn A s s j * det s A else det s A * crx A (s + 1) j c - (mn A s s s * crx A s j c - mn A s s j * crx A s s c)))
      = det s A * mn A (s + 1) i j - mn A s s s * mn A s i j + mn A s s j * mn A s i s := fun i => by
    rw [su_s, if_pos rfl]
    have e1 : su s (fun c => A i c * (if c = s then det s A * crx A (s + 1) j s + mn A s s j * det s A else det s A * crx A (s + 1) j c - (mn A s s s * crx A s j c - mn A s s j * crx A s s c)))
        = det s A * su s (fun c => A i c * crx A (s + 1) j c) - (mn A s s s * su s (fun c => A i c * crx A s j c) - mn A s s j * su s (fun c => A i c * crx A s s c)) := by
      rw [← su_mul, ← su_mul, ← su_mul, ← su_sub, ← su_sub]
      refine su_cg _ (fun c hc => ?_)
      rw [if_neg (by omega)]
      grind
    rw [e1]
    have a1 := mn_x A (s + 1) i j
    rw [su_s] at a1
    have a2 := mn_x A s i j
    have a3 := mn_x A s i s
    have a4 := mn_d A s
    grind
  have hz := det_ker A (s + 1) hd _ (fun i hi => by
    rw [hE i]
    by_cases e : i = s
    · subst e
      rw [mn_0 A j (show i < i + 1 by omega)]
      grind
    · rw [mn_0 A j hi, mn_0 A j (show i < s by omega), mn_0 A s (show i < s by omega)]
      omega)
  have := hE i
  rw [su_z (s + 1) (fun c hc => by rw [hz c hc]; omega)] at this
  grind

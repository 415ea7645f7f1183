def isP (p : Nat) : Prop := p = 2 ∨ p = 3 ∨ p = 5 ∨ p = 7 ∨ p = 11 ∨ p = 13
def inP (M : Nat → Nat → Int) (p : Nat) : Prop := ∀ i j, i < 4 → j < 8 → 0 ≤ M i j ∧ M i j < p
theorem isP.le {p : Nat} (h : isP p) : 2 ≤ p ∧ p ≤ 13 := by
  rcases h with rfl | rfl | rfl | rfl | rfl | rfl <;> decide
theorem RowsB.cg {hp : HP} {b p c w : Nat} {M M' : Nat → Nat → Int} {hd : Nat → Int} {g : Nat → Option Nat} {σ : Nat → Nat} (h : RowsB hp b p M hd c w g σ) (e : ∀ i, i < 4 → M i = M' i) : RowsB hp b p M' hd c w g σ := by
  obtain ⟨h1, h2, h3, h4, h5, h6, h7, h8, h9⟩ := h
  refine ⟨h1, h2, h3, h4, h5, h6, h7, fun i hi => ?_, h9⟩
  obtain ⟨a1, a2, a3, a4⟩ := h8 i hi
  exact ⟨a1, a2, a3, by rw [a4, e i hi]⟩
def swp (M : Nat → Nat → Int) (r k : Nat) : Nat → Nat → Int := fun i => if i = r then M k else if i = k then M r else M i
def scl (p w : Nat) (M : Nat → Nat → Int) (k : Nat) (x : Int) (pl : Nat) : Nat → Nat → Int := fun i j => if i = k ∧ pl ≤ j ∧ j < w then (M i j * x) % p else M i j
def clr (p w c : Nat) (M : Nat → Nat → Int) (k pl : Nat) : Nat → Nat → Int := fun i j => if i < c ∧ i ≠ k ∧ M i pl ≠ 0 ∧ pl ≤ j ∧ j < w then (M i j + (p - M i pl) * M k j) % p else M i j
theorem tm {x : Int} {p : Nat} (h : 0 ≤ x) : x.tmod p = x % p := Int.tmod_eq_emod_of_nonneg h
theorem mul13 {x y : Int} {p : Nat} (hp : p ≤ 13) (hx : 0 ≤ x ∧ x < p) (hy : 0 ≤ y ∧ y ≤ p) : 0 ≤ x * y ∧ x * y ≤ 169 := by
  refine ⟨Int.mul_nonneg hx.1 hy.1, ?_⟩
  have h1 : x * y ≤ 13 * y := Int.mul_le_mul_of_nonneg_right (by omega) hy.1
  omega
theorem emod_rg {x : Int} {p : Nat} (hp : 0 < p) : 0 ≤ x % p ∧ x % p < p := ⟨Int.emod_nonneg _ (by omega), Int.emod_lt_of_pos _ (by omega)⟩

theorem l_rwn {G : GL} {d : Nat} {hp : HP} {sz : Nat} {b p c w : Nat} {hd : Nat → Int} {g : Nat → Option Nat} {σ : Nat → Nat} {M : Nat → Nat → Int} {pl f0 : Nat} {Q : Option AV → HP → Nat → Prop} (R : RowsB hp b p M hd c w g σ) (hz : b + 6 < sz) (hc : c ≤ 4) (hpl : pl < 8) (hM : inP M p) (hp13 : p ≤ 13) : ∀ r, r ≤ c → (∀ v : Int, (∃ k : Nat, v = (k : Int) ∧ r ≤ k ∧ k < c ∧ M k pl ≠ 0 ∧ ∀ i, r ≤ i → i < k → M i pl = 0) ∨ (v = -1 ∧ ∀ i, r ≤ i → i < c → M i pl = 0) → Q (some (vi v)) hp sz) → Ex G d 0 0 mX3_rowWithNumber 2 [vr b, vi pl, vi f0, vi r] [] hp sz Q := by
  obtain ⟨R1, R2, R3, R4, R5, R6, R7, R8, R9⟩ := id R
  refine down (fun hq => ?_) (fun r hr ih hq => ?_)
  · refine x_iload_n (pc := 2) dX3_rowWithNumber_2 rfl ?_
    refine x_aload_n (pc := 3) dX3_rowWithNumber_3 rfl ?_
    refine x_gf (pc := 4) dX3_rowWithNumber_4 fX3_30 (by assumption) (by omega) ?_
    refine x_icmp_ge (pc := 7) (tgt := 29) dX3_rowWithNumber_7 (by decide) (by omega) (by omega) (fun c7 => ?_) (fun c7 => ?_)
    · refine x_iconst (pc := 29) dX3_rowWithNumber_29 ?_
      refine x_iret (pc := 30) dX3_rowWithNumber_30 rfl (hq (-1) (Or.inr ⟨rfl, fun i h1 h2 => absurd h2 (by omega)⟩))
    · exact absurd c7 (by omega)
  · obtain ⟨a1, a2, a3, a4⟩ := R.lt (i := r) (by omega)
    refine x_iload_n (pc := 2) dX3_rowWithNumber_2 rfl ?_
    refine x_aload_n (pc := 3) dX3_rowWithNumber_3 rfl ?_
    refine x_gf (pc := 4) dX3_rowWithNumber_4 fX3_30 (by assumption) (by omega) ?_
    refine x_icmp_ge (pc := 7) (tgt := 29) dX3_rowWithNumber_7 (by decide) (by omega) (by omega) (fun c7 => ?_) (fun c7 => ?_)
    · exact absurd c7 (by omega)
    · refine x_aload_n (pc := 10) dX3_rowWithNumber_10 rfl ?_
      refine x_gf (pc := 11) dX3_rowWithNumber_11 fX3_11 (by assumption) (by omega) ?_
      refine x_iload_n (pc := 14) dX3_rowWithNumber_14 rfl ?_
      refine x_al (pc := 15) dX3_rowWithNumber_15 (by assumption) (by omega) rfl (by omega) (by assumption) ?_
      refine x_iload_n (pc := 16) dX3_rowWithNumber_16 rfl ?_
      refine x_il (pc := 17) dX3_rowWithNumber_17 (by assumption) (by omega) rfl (by omega) ?_
      refine x_if_eq (pc := 18) (tgt := 23) dX3_rowWithNumber_18 (by decide) (by have := hM r pl (by omega) hpl; omega) (fun c18 => ?_) (fun c18 => ?_)
      · refine x_iinc (pc := 23) dX3_rowWithNumber_23 rfl (by decide) rfl ?_
        show Ex _ _ _ _ _ _ [_, _, _, _] _ _ _ _
        refine x_goto (pc := 26) (tgt := 2) dX3_rowWithNumber_26 (by decide) ?_
        exact ih (fun v hv => hq v (by
          rcases hv with ⟨k, e1, e2, e3, e4, e5⟩ | ⟨e1, e2⟩
          · refine Or.inl ⟨k, e1, by omega, e3, e4, fun i h1 h2 => ?_⟩
            by_cases hh : i = r
            · rw [hh]; exact c18
            · exact e5 i (by omega) h2
          · refine Or.inr ⟨e1, fun i h1 h2 => ?_⟩
            by_cases hh : i = r
            · rw [hh]; exact c18
            · exact e2 i (by omega) h2))
      · refine x_iload_n (pc := 21) dX3_rowWithNumber_21 rfl ?_
        refine x_iret (pc := 22) dX3_rowWithNumber_22 rfl (hq r (Or.inl ⟨r, rfl, Nat.le_refl _, hr, c18, fun i h1 h2 => absurd h2 (by omega)⟩))

set_option maxRecDepth 4000 in
theorem t_rwn {G : GL} {d : Nat} {hp : HP} {sz : Nat} {b p c w : Nat} {M : Nat → Nat → Int} {hd : Nat → Int} (R : RowsA hp b p M hd c w) (hz : b + 6 < sz) {pl f0 : Nat} (hc : c ≤ 4) (hpl : pl < 8) (hM : inP M p) (hp13 : p ≤ 13) (hf : f0 ≤ c) : Ct G d 0 0 mX3_rowWithNumber [vr b, vi pl, vi f0] hp sz (Vs (fun v h => h = hp ∧ ∃ x : Int, v = vi x ∧ (let v := x; (∃ k : Nat, v = (k : Int) ∧ f0 ≤ k ∧ k < c ∧ M k pl ≠ 0 ∧ ∀ i, f0 ≤ i → i < k → M i pl = 0) ∨ (v = -1 ∧ ∀ i, f0 ≤ i → i < c → M i pl = 0))) sz) := by
  show Ex _ _ _ _ _ _ [vr b, vi pl, vi f0, vu] _ _ _ _
  obtain ⟨g, σ, R⟩ := R
  refine x_iload_n (pc := 0) dX3_rowWithNumber_0 rfl ?_
  refine x_istore_n (pc := 1) dX3_rowWithNumber_1 (by decide) rfl ?_
  show Ex _ _ _ _ _ _ [_, _, _, _] _ _ _ _
  exact l_rwn R hz hc hpl hM hp13 f0 hf (fun v hv => ⟨_, rfl, rfl, rfl, v, rfl, hv⟩)

theorem RowsB.swap {hp : HP} {b p c w i k : Nat} {M : Nat → Nat → Int} {hd : Nat → Int} {g : Nat → Option Nat} {σ : Nat → Nat} (h : RowsB hp b p M hd c w g σ) (hi : i < 4) (hk : k < 4) : RowsA (up (up hp (b + 1) (rr 5 4 (up g i (some (σ k))))) (b + 1) (rr 5 4 (up (up g i (some (σ k))) k (some (σ i))))) b p (swp M i k) hd c w := by
  obtain ⟨h1, h2, h3, h4, h5, h6, h7, h8, h9⟩ := h
  rw [up_up]
  refine ⟨_, fun j => if j = k then σ i else if j = i then σ k else σ j, h1.up (by omega), h2.up (by omega), h3.up (by omega), h4.up (by omega), h5.up (by omega), (up_n _ _ (by omega)).trans h6, up_s _ _ _, fun j hj => ?_, fun x y hx hy hxy => ?_⟩
  · obtain ⟨a1, a2, a3, a4⟩ := h8 i hi
    obtain ⟨b1, b2, b3, b4⟩ := h8 k hk
    obtain ⟨c1, c2, c3, c4⟩ := h8 j hj
    by_cases e1 : j = k
    · subst e1
      refine ⟨by simp [up], by simp only [if_true]; omega, by simp only [if_true]; omega, ?_⟩
      simp only [if_true]
      rw [up_n _ _ (by omega), a4]
      by_cases e2 : j = i
      · subst e2
        simp [swp]
      · simp [swp, e2]
    · by_cases e2 : j = i
      · subst e2
        refine ⟨by simp [up, e1], by simp only [if_neg e1, if_true]; omega, by simp only [if_neg e1, if_true]; omega, ?_⟩
        simp only [if_neg e1, if_true]
        rw [up_n _ _ (by omega), b4]
        simp [swp]
      · refine ⟨by simp [up, e1, e2, c1], by simp only [if_neg e1, if_neg e2]; omega, by simp only [if_neg e1, if_neg e2]; omega, ?_⟩
        simp only [if_neg e1, if_neg e2]
        rw [up_n _ _ (by omega), c4]
        simp [swp, e1, e2]
  · have e : ∀ j, (if j = k then σ i else if j = i then σ k else σ j) = σ (if j = k then i else if j = i then k else j) := fun j => by
      by_cases e1 : j = k
      · simp only [if_pos e1]
      · by_cases e2 : j = i
        · simp only [if_neg e1, if_pos e2]
        · simp only [if_neg e1, if_neg e2]
    have hlt : ∀ j, j < 4 → (if j = k then i else if j = i then k else j) < 4 := fun j hj => by
      split
      · exact hi
      · split
        · exact hk
        · exact hj
    have hxy' : σ (if x = k then i else if x = i then k else x) = σ (if y = k then i else if y = i then k else y) := by
      rw [← e, ← e]
      exact hxy
    have h := h9 _ _ (hlt x hx) (hlt y hy) hxy'
    split at h <;> split at h <;> (try split at h) <;> (try split at h) <;> omega

set_option maxRecDepth 4000 in
theorem t_swap {G : GL} {d : Nat} {hp : HP} {sz : Nat} {b p c w : Nat} {M : Nat → Nat → Int} {hd : Nat → Int} (R : RowsA hp b p M hd c w) (hz : b + 6 < sz) {i k : Nat} (hi : i < 4) (hk : k < 4) : Ct G d 0 0 mX3_swap [vr b, vi i, vi k] hp sz (Vd (fun h => Fr hp h b (b + 6) ∧ RowsA h b p (swp M i k) hd c w) sz) := by
  show Ex _ _ _ _ _ _ [vr b, vi i, vi k, vu] _ _ _ _
  have hob := R.ob
  obtain ⟨g, σ, R⟩ := R
  obtain ⟨R1, R2, R3, R4, R5, R6, R7, R8, R9⟩ := id R
  obtain ⟨a1, a2, a3, a4⟩ := R.lt (i := i) (by omega)
  obtain ⟨a1', a2', a3', a4'⟩ := R.lt (i := k) (by omega)
  refine x_aload_n (pc := 0) dX3_swap_0 rfl ?_
  refine x_gf (pc := 1) dX3_swap_1 fX3_11 (by assumption) (by omega) ?_
  refine x_iload_n (pc := 4) dX3_swap_4 rfl ?_
  refine x_al (pc := 5) dX3_swap_5 (by assumption) (by omega) rfl (by omega) (by assumption) ?_
  refine x_astore_n (pc := 6) dX3_swap_6 (by decide) rfl ?_
  show Ex _ _ _ _ _ _ [_, _, _, _] _ _ _ _
  refine x_aload_n (pc := 7) dX3_swap_7 rfl ?_
  refine x_gf (pc := 8) dX3_swap_8 fX3_11 (by assumption) (by omega) ?_
  refine x_iload_n (pc := 11) dX3_swap_11 rfl ?_
  refine x_aload_n (pc := 12) dX3_swap_12 rfl ?_
  refine x_gf (pc := 13) dX3_swap_13 fX3_11 (by assumption) (by omega) ?_
  refine x_iload_n (pc := 16) dX3_swap_16 rfl ?_
  refine x_al (pc := 17) dX3_swap_17 (by assumption) (by omega) rfl (by omega) (by assumption) ?_
  refine x_as (pc := 18) dX3_swap_18 (by assumption) (by omega) rfl (by omega) (by omega) (by rw [a4']; exact rfl) ?_
  have R2' := R2.up (b := b + 1) (x := rr 5 4 (up g i (some (σ k)))) (by omega)
  have R7' := up_s hp (b + 1) (rr 5 4 (up g i (some (σ k))))
  refine x_aload_n (pc := 19) dX3_swap_19 rfl ?_
  refine x_gf (pc := 20) dX3_swap_20 fX3_11 (by assumption) (by omega) ?_
  refine x_iload_n (pc := 23) dX3_swap_23 rfl ?_
  refine x_aload_n (pc := 24) dX3_swap_24 rfl ?_
  refine x_as (pc := 25) dX3_swap_25 (by assumption) (by omega) rfl (by omega) (by omega) (by rw [up_n _ _ (by omega), a4]; exact rfl) ?_
  refine x_vret (pc := 26) dX3_swap_26 rfl ⟨rfl, rfl, (Fr.rf.up (by omega) (by omega)).up (by omega) (by omega), R.swap hi hk⟩

theorem l_inv {G : GL} {d : Nat} {hp : HP} {sz : Nat} {b p c w : Nat} {hd : Nat → Int} {g : Nat → Option Nat} {σ : Nat → Nat} {M : Nat → Nat → Int} {v : Int} {Q : Option AV → HP → Nat → Prop} (R : RowsB hp b p M hd c w g σ) (hz : b + 6 < sz) (hp13 : p ≤ 13) (hv : 0 ≤ v ∧ v < p) (hq : ∀ x : Nat, (x : Int) < p → ((x : Int) * v) % p = 1 → Q (some (vi x)) hp sz) : ∀ k, k ≤ p → (∃ x : Nat, k ≤ x ∧ x < p ∧ ((x : Int) * v) % p = 1) → Ex G d 0 0 mX3_inverse 2 [vr b, vi v, vi k] [] hp sz Q := by
  obtain ⟨R1, R2, R3, R4, R5, R6, R7, R8, R9⟩ := id R
  refine down (fun hex => ?_) (fun k hk ih hex => ?_)
  · refine x_iload_n (pc := 2) dX3_inverse_2 rfl ?_
    refine x_aload_n (pc := 3) dX3_inverse_3 rfl ?_
    refine x_gf (pc := 4) dX3_inverse_4 fX3_20 (by assumption) (by omega) ?_
    refine x_icmp_ge (pc := 7) (tgt := 30) dX3_inverse_7 (by decide) (by omega) (by omega) (fun c7 => ?_) (fun c7 => ?_)
    · refine x_iconst (pc := 30) dX3_inverse_30 ?_
      refine x_iret (pc := 31) dX3_inverse_31 rfl (absurd hex (by rintro ⟨x, h1, h2, h3⟩; omega))
    · exact absurd c7 (by omega)
  · refine x_iload_n (pc := 2) dX3_inverse_2 rfl ?_
    refine x_aload_n (pc := 3) dX3_inverse_3 rfl ?_
    refine x_gf (pc := 4) dX3_inverse_4 fX3_20 (by assumption) (by omega) ?_
    refine x_icmp_ge (pc := 7) (tgt := 30) dX3_inverse_7 (by decide) (by omega) (by omega) (fun c7 => ?_) (fun c7 => ?_)
    · exact absurd c7 (by omega)
    · refine x_iload_n (pc := 10) dX3_inverse_10 rfl ?_
      refine x_iload_n (pc := 11) dX3_inverse_11 rfl ?_
      refine x_imul (pc := 12) dX3_inverse_12 ?_
      refine x_aload_n (pc := 13) dX3_inverse_13 rfl ?_
      refine x_gf (pc := 14) dX3_inverse_14 fX3_20 (by assumption) (by omega) ?_
      have hm9 := mul13 hp13 (x := (k : Int)) (y := v) ⟨by omega, by omega⟩ ⟨by omega, by omega⟩
      refine x_irem (pc := 17) dX3_inverse_17 (by omega) (by omega) ?_
      rw [tm hm9.1]
      have hr9 := emod_rg (x := (k : Int) * v) (p := p) (by omega)
      refine x_iconst (pc := 18) dX3_inverse_18 ?_
      refine x_icmp_ne (pc := 19) (tgt := 24) dX3_inverse_19 (by decide) (by omega) (by omega) (fun c19 => ?_) (fun c19 => ?_)
      · refine x_iinc (pc := 24) dX3_inverse_24 rfl (by decide) rfl ?_
        show Ex _ _ _ _ _ _ [_, _, _] _ _ _ _
        refine x_goto (pc := 27) (tgt := 2) dX3_inverse_27 (by decide) ?_
        exact ih (by obtain ⟨x, h1, h2, h3⟩ := hex; refine ⟨x, ?_, h2, h3⟩; by_cases e : x = k; (subst e; exact absurd h3 c19); omega)
      · refine x_iload_n (pc := 22) dX3_inverse_22 rfl ?_
        refine x_iret (pc := 23) dX3_inverse_23 rfl (hq k c7 c19)
theorem inv_ex : ∀ p, p < 14 → isP p → ∀ v : Nat, v < p → 0 < v → ∃ x : Nat, x < p ∧ 1 ≤ x ∧ (x * v) % p = 1 := by
  have key : ∀ p ∈ [2, 3, 5, 7, 11, 13], ∀ v, v < p → 0 < v → ∃ x, x < p ∧ 1 ≤ x ∧ (x * v) % p = 1 := by decide +kernel
  intro p _ hp
  exact key p (by rcases hp with rfl | rfl | rfl | rfl | rfl | rfl <;> simp)
theorem inv_exI {p : Nat} (hp : isP p) {v : Int} (h0 : 0 < v) (h1 : v < p) : ∃ x : Nat, 1 ≤ x ∧ x < p ∧ ((x : Int) * v) % p = 1 := by
  obtain ⟨x, a1, a2, a3⟩ := inv_ex p (by have := hp.le; omega) hp v.toNat (by omega) (by omega)
  refine ⟨x, a2, a1, ?_⟩
  have : ((x * v.toNat % p : Nat) : Int) = 1 := by rw [a3]; rfl
  rw [Int.natCast_emod, Int.natCast_mul, show ((v.toNat : Nat) : Int) = v by omega] at this
  exact this

set_option maxRecDepth 4000 in
theorem t_inv {G : GL} {d : Nat} {hp : HP} {sz : Nat} {b p c w : Nat} {M : Nat → Nat → Int} {hd : Nat → Int} (R : RowsA hp b p M hd c w) (hz : b + 6 < sz) {v : Int} (hP : isP p) (hv : 0 < v ∧ v < p) : Ct G d 0 0 mX3_inverse [vr b, vi v] hp sz (Vs (fun r h => h = hp ∧ ∃ x : Nat, r = vi x ∧ (x : Int) < p ∧ ((x : Int) * v) % p = 1) sz) := by
  show Ex _ _ _ _ _ _ [vr b, vi v, vu] _ _ _ _
  obtain ⟨g, σ, R⟩ := R
  refine x_iconst (pc := 0) dX3_inverse_0 ?_
  refine x_istore_n (pc := 1) dX3_inverse_1 (by decide) rfl ?_
  show Ex _ _ _ _ _ _ [_, _, _] _ _ _ _
  exact l_inv R hz hP.le.2 ⟨by omega, hv.2⟩ (fun x h1 h2 => ⟨_, rfl, rfl, rfl, x, rfl, h1, h2⟩) 1 (by have := hP.le; omega) (inv_exI hP hv.1 hv.2)

theorem l_scale {G : GL} {d : Nat} {sz : Nat} {b p c w : Nat} {hd : Nat → Int} {g : Nat → Option Nat} {σ : Nat → Nat} {r f0 : Nat} {f : Int} {Q : Option AV → HP → Nat → Prop} (hz : b + 6 < sz) (hr : r < 4) (hw : w ≤ 8) (hp13 : p ≤ 13) (hp0 : 0 < p) (hf : 0 ≤ f ∧ f < p) : ∀ i, i ≤ w → ∀ (hp : HP) (M : Nat → Nat → Int), RowsB hp b p M hd c w g σ → inP M p → (∀ h M1, Fr hp h b (b + 6) → RowsB h b p M1 hd c w g σ → (∀ x j, M1 x j = scl p w M r f i x j) → Q none h sz) → Ex G d 0 0 mX3_scale 17 [vr b, vi r, vi f, vi f0, vr (σ r), vi i] [] hp sz Q := by
  refine down (fun hp M R hM hq => ?_) (fun i hi ih hp M R hM hq => ?_)
  · obtain ⟨R1, R2, R3, R4, R5, R6, R7, R8, R9⟩ := id R
    obtain ⟨a1, a2, a3, a4⟩ := R.lt (i := r) hr
    refine x_iload (pc := 17) dX3_scale_17 rfl ?_
    refine x_aload_n (pc := 19) dX3_scale_19 rfl ?_
    refine x_gf (pc := 20) dX3_scale_20 fX3_33 (by assumption) (by omega) ?_
    refine x_icmp_ge (pc := 23) (tgt := 49) dX3_scale_23 (by decide) (by omega) (by omega) (fun c23 => ?_) (fun c23 => ?_)
    · refine x_vret (pc := 49) dX3_scale_49 rfl (hq hp M Fr.rf R (fun x j => by rw [scl, if_neg (by omega)]))
    · exact absurd c23 (by omega)
  · obtain ⟨R1, R2, R3, R4, R5, R6, R7, R8, R9⟩ := id R
    obtain ⟨a1, a2, a3, a4⟩ := R.lt (i := r) hr
    refine x_iload (pc := 17) dX3_scale_17 rfl ?_
    refine x_aload_n (pc := 19) dX3_scale_19 rfl ?_
    refine x_gf (pc := 20) dX3_scale_20 fX3_33 (by assumption) (by omega) ?_
    refine x_icmp_ge (pc := 23) (tgt := 49) dX3_scale_23 (by decide) (by omega) (by omega) (fun c23 => ?_) (fun c23 => ?_)
    · exact absurd c23 (by omega)
    · refine x_aload (pc := 26) dX3_scale_26 rfl ?_
      refine x_iload (pc := 28) dX3_scale_28 rfl ?_
      refine x_aload (pc := 30) dX3_scale_30 rfl ?_
      refine x_iload (pc := 32) dX3_scale_32 rfl ?_
      refine x_il (pc := 34) dX3_scale_34 (by assumption) (by omega) rfl (by omega) ?_
      refine x_iload_n (pc := 35) dX3_scale_35 rfl ?_
      refine x_imul (pc := 36) dX3_scale_36 ?_
      refine x_aload_n (pc := 37) dX3_scale_37 rfl ?_
      refine x_gf (pc := 38) dX3_scale_38 fX3_20 (by assumption) (by omega) ?_
      have hm9 := mul13 hp13 (hM r i hr (by omega)) ⟨hf.1, by omega⟩
      refine x_irem (pc := 41) dX3_scale_41 (by omega) (by omega) ?_
      rw [tm hm9.1]
      refine x_is (pc := 42) dX3_scale_42 (by assumption) (by omega) rfl (by omega) ?_
      refine x_iinc (pc := 43) dX3_scale_43 rfl (by decide) rfl ?_
      show Ex _ _ _ _ _ _ [_, _, _, _, _, _] _ _ _ _
      refine x_goto (pc := 46) (tgt := 17) dX3_scale_46 (by decide) ?_
      exact ih _ _ (R.row (f := up (M r) i ((M r i * f) % p)) hr) (fun x j hx hj => by
        by_cases e : x = r
        · subst e
          rw [up_s]
          by_cases e2 : j = i
          · subst e2; rw [up_s]; exact emod_rg (by omega)
          · rw [up_n _ _ e2]; exact hM x j hx hj
        · rw [up_n _ _ e]; exact hM x j hx hj) (fun h M1 f1 r1 e1 => hq h M1 ((Fr.rf.up (by omega) (by omega)).tr f1) r1 (fun x j => by
        rw [e1 x j]
        by_cases e : x = r
        · subst e
          unfold scl
          rw [up_s]
          by_cases e2 : j = i
          · subst e2
            rw [up_s, if_neg (by omega), if_pos ⟨rfl, by omega, by omega⟩]
          · rw [up_n _ _ e2]
            by_cases e3 : i + 1 ≤ j ∧ j < w
            · rw [if_pos ⟨rfl, e3⟩, if_pos ⟨rfl, by omega, by omega⟩]
            · rw [if_neg (by omega), if_neg (by omega)]
        · simp only [scl, up_n _ _ e, if_neg (show ¬ (x = r ∧ _) from fun z => e z.1)]))

set_option maxRecDepth 4000 in
theorem t_scale {G : GL} {d : Nat} {hp : HP} {sz : Nat} {b p c w : Nat} {M : Nat → Nat → Int} {hd : Nat → Int} (R : RowsA hp b p M hd c w) (hz : b + 6 < sz) {r f0 : Nat} {f : Int} (hr : r < 4) (hw : w ≤ 8) (hP : isP p) (hM : inP M p) (hf : 0 ≤ f ∧ f < p) (hf0 : f0 ≤ w) : Ct G d 0 0 mX3_scale [vr b, vi r, vi f, vi f0] hp sz (Vd (fun h => Fr hp h b (b + 6) ∧ RowsA h b p (scl p w M r f f0) hd c w) sz) := by
  show Ex _ _ _ _ _ _ [vr b, vi r, vi f, vi f0, vu, vu] _ _ _ _
  have hp13 := hP.le
  have hob := R.ob
  obtain ⟨g, σ, R⟩ := R
  obtain ⟨R1, R2, R3, R4, R5, R6, R7, R8, R9⟩ := id R
  obtain ⟨a1, a2, a3, a4⟩ := R.lt (i := r) (by omega)
  refine x_iload_n (pc := 0) dX3_scale_0 rfl ?_
  refine x_iconst (pc := 1) dX3_scale_1 ?_
  refine x_icmp_ne (pc := 2) (tgt := 6) dX3_scale_2 (by decide) (by omega) (by omega) (fun c2 => ?_) (fun c2 => ?_)
  · refine x_aload_n (pc := 6) dX3_scale_6 rfl ?_
    refine x_gf (pc := 7) dX3_scale_7 fX3_11 (by assumption) (by omega) ?_
    refine x_iload_n (pc := 10) dX3_scale_10 rfl ?_
    refine x_al (pc := 11) dX3_scale_11 (by assumption) (by omega) rfl (by omega) (by assumption) ?_
    refine x_astore (pc := 12) dX3_scale_12 (by decide) rfl ?_
    show Ex _ _ _ _ _ _ [_, _, _, _, _, _] _ _ _ _
    refine x_iload_n (pc := 14) dX3_scale_14 rfl ?_
    refine x_istore (pc := 15) dX3_scale_15 (by decide) rfl ?_
    show Ex _ _ _ _ _ _ [_, _, _, _, _, _] _ _ _ _
    exact l_scale hz hr hw hp13.2 (by omega) hf f0 hf0 hp M R hM (fun h M1 f1 r1 e1 => ⟨rfl, rfl, f1, g, σ, r1.cg (fun i _ => funext fun j => e1 i j)⟩)
  · refine x_vret (pc := 5) dX3_scale_5 rfl ⟨rfl, rfl, Fr.rf, g, σ, R.cg (fun i hi => funext fun j => by
      unfold scl
      by_cases e : i = r ∧ f0 ≤ j ∧ j < w
      · rw [if_pos e, c2, Int.mul_one, Int.emod_eq_of_lt (hM i j hi (by omega)).1 (hM i j hi (by omega)).2]
      · rw [if_neg e])⟩

/-! bringing to least rows: what holds when the places before pl are done, k rows have heads -/
def Jr (p w c : Nat) (M0 : Nat → Nat → Int) (pl k : Nat) (M : Nat → Nat → Int) (hd : Nat → Int) : Prop :=
  k ≤ pl ∧ k ≤ c ∧ pl ≤ w ∧ (∀ j, pl ≤ j → j < 8 → hd j = -1) ∧ (∀ j, j < pl → hd j = -1 ∨ ∃ r : Nat, r < k ∧ hd j = (r : Int)) ∧ (∀ r : Nat, r < k → ∃ j, j < pl ∧ hd j = (r : Int)) ∧
  (∀ (j r : Nat), j < pl → hd j = (r : Int) → M r j = 1 ∧ (∀ i, i < c → i ≠ r → M i j = 0) ∧ ∀ j', j' < j → M r j' = 0) ∧
  (∀ j, j < pl → hd j = -1 → ∀ i, k ≤ i → i < c → M i j = 0) ∧
  (∀ (j j' r r' : Nat), j < j' → j' < pl → hd j = (r : Int) → hd j' = (r' : Int) → r < r') ∧
  ∀ v, Sp p c w M v ↔ Sp p c w M0 v
theorem Jr.zero {p w c pl k : Nat} {M0 M : Nat → Nat → Int} {hd : Nat → Int} (h : Jr p w c M0 pl k M hd) {i j : Nat} (hi : k ≤ i) (hc : i < c) (hj : j < pl) : M i j = 0 := by
  obtain ⟨h1, h2, h3, h4, h5, h6, h7, h8, -⟩ := h
  rcases h5 j hj with e | ⟨r, hr, e⟩
  · exact h8 j hj e i hi hc
  · exact (h7 j r hj e).2.1 i hc (by omega)
theorem Jr.skip {p w c pl k : Nat} {M0 M : Nat → Nat → Int} {hd : Nat → Int} (h : Jr p w c M0 pl k M hd) (hpl : pl < w) (hw : w ≤ 8) (hz : ∀ i, k ≤ i → i < c → M i pl = 0) : Jr p w c M0 (pl + 1) k M hd := by
  obtain ⟨h1, h2, h3, h4, h5, h6, h7, h8, h9, h10⟩ := h
  have hm := h4 pl (Nat.le_refl _) (by omega)
  refine ⟨by omega, h2, by omega, fun j hj hj8 => h4 j (by omega) hj8, fun j hj => ?_, fun r hr => ?_, fun j r hj e => ?_, fun j hj e i hi hc => ?_, fun j j' r r' hjj hj e e' => ?_, h10⟩
  · by_cases e : j = pl
    · rw [e]; exact Or.inl hm
    · exact h5 j (by omega)
  · obtain ⟨j, hj, e⟩ := h6 r hr
    exact ⟨j, by omega, e⟩
  · by_cases e9 : j = pl
    · rw [e9, hm] at e; omega
    · exact h7 j r (by omega) e
  · by_cases e9 : j = pl
    · rw [e9]; exact hz i hi hc
    · exact h8 j (by omega) e i hi hc
  · by_cases e9 : j' = pl
    · rw [e9, hm] at e'; omega
    · exact h9 j j' r r' hjj (by omega) e e'
section Elm
variable {p w c pl k r : Nat} {M : Nat → Nat → Int} {x : Int}
theorem elm_k {j : Nat} (hkr : k ≤ r) (hj : j < w) (hjp : pl ≤ j) : elm p w c M r k x pl k j = (M r j * x) % p := by
  unfold elm clr
  rw [if_neg (fun z => z.2.1 rfl)]
  unfold scl
  rw [if_pos ⟨rfl, hjp, hj⟩]
  unfold swp
  by_cases h : k = r
  · rw [if_pos h, h]
  · rw [if_neg h, if_pos rfl]
theorem elm_lo {i j : Nat} (hj : j < pl) : elm p w c M r k x pl i j = swp M r k i j := by
  unfold elm clr
  rw [if_neg (by omega)]
  unfold scl
  rw [if_neg (by omega)]
theorem elm_i {i j : Nat} (hi : i < c) (hik : i ≠ k) (hj : j < w) (hjp : pl ≤ j) : (p : Int) ∣ elm p w c M r k x pl i j - (swp M r k i j - swp M r k i pl * elm p w c M r k x pl k j) := by
  have hs : ∀ z, scl p w (swp M r k) k x pl i z = swp M r k i z := fun z => by unfold scl; rw [if_neg (fun q => hik q.1)]
  have hk : elm p w c M r k x pl k j = scl p w (swp M r k) k x pl k j := by unfold elm clr; rw [if_neg (fun z => z.2.1 rfl)]
  rw [hk]
  unfold elm clr
  rw [hs, hs]
  by_cases h0 : swp M r k i pl = 0
  · rw [if_neg (fun z => z.2.2.1 h0), h0, Int.zero_mul, Int.sub_zero, Int.sub_self]
    exact Int.dvd_zero _
  · rw [if_pos ⟨hi, hik, h0, hjp, hj⟩]
    generalize scl p w (swp M r k) k x pl k j = q
    have h1 := emod_dvd (swp M r k i j + (p - swp M r k i pl) * q) p
    have h2 : (p : Int) ∣ p * q := Int.dvd_mul_right _ _
    have h3 := Int.dvd_sub h2 h1
    rw [Int.sub_mul] at h3 ⊢
    rwa [show (p : Int) * q - (swp M r k i j + (p * q - swp M r k i pl * q) - (swp M r k i j + (p * q - swp M r k i pl * q)) % p) = (swp M r k i j + (p * q - swp M r k i pl * q)) % p - (swp M r k i j - swp M r k i pl * q) by omega] at h3
end Elm
theorem Jr.piv {p w c pl k : Nat} {M0 M : Nat → Nat → Int} {hd : Nat → Int} {r x : Nat} (h : Jr p w c M0 pl k M hd) (hpl : pl < w) (hw : w ≤ 8) (hp2 : 2 ≤ p) (hkr : k ≤ r) (hrc : r < c) (hM : ∀ i j, i < c → j < w → 0 ≤ M i j ∧ M i j < p) (hx : ((x : Int) * M r pl) % p = 1) : Jr p w c M0 (pl + 1) (k + 1) (elm p w c M r k x pl) (up hd pl (k : Int)) := by
  have hzero := fun {i j : Nat} (hi : k ≤ i) (hc : i < c) (hj : j < pl) => h.zero hi hc hj
  obtain ⟨h1, h2, h3, h4, h5, h6, h7, h8, h9, h10⟩ := h
  have hkc : k < c := by omega
  have hkpl : elm p w c M r k x pl k pl = 1 := by
    rw [elm_k hkr hpl (Nat.le_refl _), Int.mul_comm]
    exact hx
  have hklo : ∀ j, j < pl → elm p w c M r k x pl k j = 0 := fun j hj => by
    rw [elm_lo hj]
    unfold swp
    by_cases e : k = r
    · rw [if_pos e]; exact hzero (Nat.le_refl _) hkc hj
    · rw [if_neg e, if_pos rfl]; exact hzero hkr hrc hj
  have hsw : ∀ i, i < c → k ≤ i → ∀ j, j < pl → swp M r k i j = 0 := fun i hi hki j hj => by
    unfold swp
    split
    · exact hzero (Nat.le_refl _) hkc hj
    · split
      · exact hzero hkr hrc hj
      · exact hzero hki hi hj
  have hswlo : ∀ i, i < k → swp M r k i = M i := fun i hi => by
    unfold swp
    rw [if_neg (by omega), if_neg (by omega)]
  have hswR : ∀ i j, i < c → j < w → 0 ≤ swp M r k i j ∧ swp M r k i j < p := fun i j hi hj => by
    unfold swp
    split
    · exact hM k j hkc hj
    · split
      · exact hM r j hrc hj
      · exact hM i j hi hj
  have hipl : ∀ i, i < c → i ≠ k → elm p w c M r k x pl i pl = 0 := fun i hi hik => by
    have hd9 := elm_i (p := p) (w := w) (c := c) (M := M) (r := r) (x := (x : Int)) hi hik hpl (Nat.le_refl pl)
    rw [hkpl, Int.mul_one, Int.sub_self, Int.sub_zero] at hd9
    have hr9 : 0 ≤ elm p w c M r k x pl i pl ∧ elm p w c M r k x pl i pl < p := by
      unfold elm clr
      split
      · exact emod_rg (by omega)
      · unfold scl
        split
        · exact emod_rg (by omega)
        · exact hswR i pl hi hpl
    have hz9 := Int.emod_eq_zero_of_dvd hd9
    rw [Int.emod_eq_of_lt hr9.1 hr9.2] at hz9
    exact hz9
  have hupl : ∀ j, j ≠ pl → up hd pl (k : Int) j = hd j := fun j hj => up_n _ _ hj
  refine ⟨by omega, by omega, by omega, fun j hj hj8 => (hupl j (by omega)).trans (h4 j (by omega) hj8), fun j hj => ?_, fun r' hr' => ?_, fun j r' hj e => ?_, fun j hj e i hi hc => ?_, fun j j' r1 r2 hjj hj e e' => ?_, fun v => (Iff.trans ?_ (h10 v))⟩
  · by_cases e : j = pl
    · rw [e, up_s]; exact Or.inr ⟨k, by omega, rfl⟩
    · rw [hupl j e]
      rcases h5 j (by omega) with e1 | ⟨r1, e1, e2⟩
      · exact Or.inl e1
      · exact Or.inr ⟨r1, by omega, e2⟩
  · by_cases e : r' = k
    · exact ⟨pl, by omega, by rw [up_s, e]⟩
    · obtain ⟨j, hj, e1⟩ := h6 r' (by omega)
      exact ⟨j, by omega, by rw [hupl j (by omega)]; exact e1⟩
  · by_cases e1 : j = pl
    · subst e1
      rw [up_s] at e
      have e2 : r' = k := by omega
      subst e2
      exact ⟨hkpl, fun i hi hne => hipl i hi hne, fun j' hj' => hklo j' hj'⟩
    · rw [hupl j e1] at e
      have hjp : j < pl := by omega
      obtain ⟨a1, a2, a3⟩ := h7 j r' hjp e
      have hrk : r' < k := by
        rcases h5 j hjp with e2 | ⟨r2, e2, e3⟩
        · omega
        · omega
      refine ⟨by rw [elm_lo hjp, hswlo r' hrk]; exact a1, fun i hi hne => ?_, fun j' hj' => by rw [elm_lo (by omega), hswlo r' hrk]; exact a3 j' hj'⟩
      rw [elm_lo hjp]
      by_cases hik : i < k
      · rw [hswlo i hik]; exact a2 i hi hne
      · exact hsw i hi (by omega) j hjp
  · by_cases e1 : j = pl
    · subst e1
      rw [up_s] at e
      omega
    · rw [elm_lo (by omega)]
      exact hsw i hc (by omega) j (by omega)
  · by_cases e1 : j' = pl
    · subst e1
      rw [up_s] at e'
      rw [hupl j (by omega)] at e
      rcases h5 j (by omega) with e2 | ⟨r3, e2, e3⟩
      · omega
      · omega
    · rw [hupl j' e1] at e'
      rw [hupl j (by omega)] at e
      exact h9 j j' r1 r2 hjj (by omega) e e'
  · -- the space is the same
    have hlow : ∀ i j, i < c → i ≠ k → j < w → (p : Int) ∣ elm p w c M r k x pl i j - (swp M r k i j - swp M r k i pl * elm p w c M r k x pl k j) := fun i j hi hik hj => by
      by_cases hjp : pl ≤ j
      · exact elm_i hi hik hj hjp
      · rw [elm_lo (by omega), hklo j (by omega), Int.mul_zero, Int.sub_zero, Int.sub_self]
        exact Int.dvd_zero _
    have hkj : ∀ j, j < w → (p : Int) ∣ elm p w c M r k x pl k j - x * M r j := fun j hj => by
      by_cases hjp : pl ≤ j
      · rw [elm_k hkr hj hjp, Int.mul_comm (M r j)]
        have := emod_dvd ((x : Int) * M r j) p
        have h9 := Int.dvd_neg.mpr this
        rwa [show -((x : Int) * M r j - (x : Int) * M r j % p) = (x : Int) * M r j % p - (x : Int) * M r j by omega] at h9
      · rw [hklo j (by omega), hzero hkr hrc (by omega), Int.mul_zero, Int.sub_self]
        exact Int.dvd_zero _
    constructor
    · intro hv
      refine Sp.le (fun i hi => ?_) hv
      have hNk : Sp p c w M (elm p w c M r k x pl k) := (Sp.mul (Sp.row hrc) (x : Int)).cg hkj
      by_cases hik : i = k
      · rw [hik]; exact hNk
      · have hS : Sp p c w M (swp M r k i) := by
          unfold swp
          split
          · exact Sp.row hkc
          · exact Sp.row hi
        refine (hS.lin hNk (-(swp M r k i pl))).cg (fun j hj => ?_)
        have := hlow i j hi hik hj
        rwa [show swp M r k i j - swp M r k i pl * elm p w c M r k x pl k j = swp M r k i j + -(swp M r k i pl) * elm p w c M r k x pl k j by rw [Int.neg_mul]; omega] at this
    · intro hv
      refine Sp.le (fun i hi => ?_) hv
      have hMr : Sp p c w (elm p w c M r k x pl) (M r) := by
        refine (Sp.mul (Sp.row hkc) (M r pl)).cg (fun j hj => ?_)
        have a1 := Int.dvd_trans (hkj j hj) (Int.dvd_mul_left (M r pl) _)
        have a2 := emod_dvd ((x : Int) * M r pl) p
        rw [hx] at a2
        have a3 := Int.dvd_trans a2 (Int.dvd_mul_right _ (M r j))
        have a4 := Int.dvd_neg.mpr (Int.dvd_add a1 a3)
        rw [Int.mul_sub, Int.sub_mul, Int.one_mul] at a4
        rwa [show -(M r pl * elm p w c M r k x pl k j - M r pl * ((x : Int) * M r j) + ((x : Int) * M r pl * M r j - M r j)) = M r j - M r pl * elm p w c M r k x pl k j by
          have : M r pl * ((x : Int) * M r j) = (x : Int) * M r pl * M r j := by rw [← Int.mul_assoc, Int.mul_comm (M r pl)]
          omega] at a4
      have hSi : ∀ i, i < c → i ≠ k → Sp p c w (elm p w c M r k x pl) (swp M r k i) := fun i hi hik => by
        refine ((Sp.row hi).lin (Sp.row hkc) (swp M r k i pl)).cg (fun j hj => ?_)
        have := Int.dvd_neg.mpr (hlow i j hi hik hj)
        rwa [show -(elm p w c M r k x pl i j - (swp M r k i j - swp M r k i pl * elm p w c M r k x pl k j)) = swp M r k i j - (elm p w c M r k x pl i j + swp M r k i pl * elm p w c M r k x pl k j) by omega] at this
      by_cases hir : i = r
      · rw [hir]; exact hMr
      · by_cases hik : i = k
        · have := hSi r hrc (by omega)
          unfold swp at this
          rw [if_pos rfl] at this
          rw [hik]; exact this
        · have := hSi i hi hik
          unfold swp at this
          rw [if_neg hir, if_neg hik] at this
          exact this
/-- least rows: k rows, each with its head -/
def Rf (w k : Nat) (M : Nat → Nat → Int) (hd : Nat → Int) : Prop :=
  k ≤ w ∧ (∀ j, j < w → hd j = -1 ∨ ∃ r : Nat, r < k ∧ hd j = (r : Int)) ∧ (∀ j, w ≤ j → j < 8 → hd j = -1) ∧ (∀ r : Nat, r < k → ∃ j, j < w ∧ hd j = (r : Int)) ∧
  (∀ (j r : Nat), j < w → hd j = (r : Int) → M r j = 1 ∧ (∀ i, i < k → i ≠ r → M i j = 0) ∧ ∀ j', j' < j → M r j' = 0) ∧
  ∀ (j j' r r' : Nat), j < j' → j' < w → hd j = (r : Int) → hd j' = (r' : Int) → r < r'
theorem Jr.fin {p w c pl k : Nat} {M0 M : Nat → Nat → Int} {hd : Nat → Int} (h : Jr p w c M0 pl k M hd) (hw : w ≤ 8) (he : pl = w ∨ k = c) : Rf w k M hd ∧ ∀ v, Sp p k w M v ↔ Sp p c w M0 v := by
  have hzero := fun {i j : Nat} (hi : k ≤ i) (hc : i < c) (hj : j < pl) => h.zero hi hc hj
  obtain ⟨h1, h2, h3, h4, h5, h6, h7, h8, h9, h10⟩ := h
  have hlt : ∀ (j r : Nat), j < w → hd j = (r : Int) → j < pl := fun j r hj e => by
    rcases Nat.lt_or_ge j pl with q | q
    · exact q
    · have := h4 j q (by omega)
      omega
  refine ⟨⟨by omega, fun j hj => ?_, fun j hj hj8 => h4 j (by omega) hj8, fun r hr => ?_, fun j r hj e => ?_, fun j j' r r' hjj hj e e' => h9 j j' r r' hjj (hlt j' r' hj e') e e'⟩, fun v => Iff.trans ?_ (h10 v)⟩
  · rcases Nat.lt_or_ge j pl with q | q
    · exact h5 j q
    · exact Or.inl (h4 j q (by omega))
  · obtain ⟨j, hj, e⟩ := h6 r hr
    exact ⟨j, by omega, e⟩
  · obtain ⟨a1, a2, a3⟩ := h7 j r (hlt j r hj e) e
    exact ⟨a1, fun i hi hne => a2 i (by omega) hne, a3⟩
  · constructor
    · intro hv
      exact Sp.le (fun i hi => Sp.row (by omega)) hv
    · intro hv
      refine Sp.le (fun i hi => ?_) hv
      by_cases hik : i < k
      · exact Sp.row hik
      · refine Sp.zero.cg (fun j hj => ?_)
        rw [hzero (by omega) hi (by omega), Int.sub_self]
        exact Int.dvd_zero _
theorem t_bringR {G : GL} {d : Nat} {hp : HP} {sz : Nat} {b p c w : Nat} {M : Nat → Nat → Int} {hd : Nat → Int} (R : RowsA hp b p M hd c w) (hz : b + 6 < sz) (hc : c ≤ 4) (hw : w ≤ 8) (hP : isP p) (hM : inP M p) (hh : ∀ j, j < 8 → hd j = -1) : Ct G (d + 1) 0 0 mX3_bringToLeast [vr b] hp sz (Vd (fun h => Fr hp h b (b + 6) ∧ ∃ M1 hd1 k1, RowsA h b p M1 hd1 k1 w ∧ inP M1 p ∧ k1 ≤ c ∧ Rf w k1 M1 hd1 ∧ ∀ v, Sp p k1 w M1 v ↔ Sp p c w M v) sz) := by
  refine (t_bring R hz hc hw hP hM (Jr p w c M) ?_ ?_ ?_).mono ?_
  · exact ⟨Nat.le_refl _, Nat.zero_le _, Nat.zero_le _, fun j _ hj => hh j hj, fun j hj => absurd hj (Nat.not_lt_zero _), fun r hr => absurd hr (Nat.not_lt_zero _), fun j r hj => absurd hj (Nat.not_lt_zero _), fun j hj => absurd hj (Nat.not_lt_zero _), fun j j' r r' _ hj => absurd hj (Nat.not_lt_zero _), fun v => Iff.rfl⟩
  · intro pl k M1 hd1 hpl hk _ hJ hz0
    exact hJ.skip hpl hw hz0
  · intro pl k M1 hd1 r x hpl hk hM1 hJ hkr hrc _ _ _ hx
    exact hJ.piv hpl hw hP.le.1 hkr hrc (fun i j hi hj => hM1 i j (by omega) (by omega)) hx
  · rintro r h z ⟨e1, e2, f1, M1, hd1, k1, pl1, r1, m1, j1, e3⟩
    obtain ⟨a1, a2⟩ := j1.fin hw e3
    exact ⟨e1, e2, f1, M1, hd1, k1, r1, m1, j1.2.1, a1, a2⟩
theorem Rf.hr {w k : Nat} {M : Nat → Nat → Int} {hd : Nat → Int} (h : Rf w k M hd) (hk : k ≤ 4) : ∀ j, j < 8 → -1 ≤ hd j ∧ hd j < 4 := fun j hj => by
  by_cases hjw : j < w
  · rcases h.2.1 j hjw with e | ⟨r, hr, e⟩ <;> omega
  · have := h.2.2.1 j (by omega) hj
    omega

/-! least rows are the only ones -/
theorem ech_heads {K : Type} [Lean.Grind.CommRing K] (h01 : (1 : K) ≠ 0) {w k k' : Nat} {A A' : Nat → Nat → K} {H H' : Nat → Nat} (hR : RK w k A H) (hR' : RK w k' A' H') (hz : ∀ r, r < k → ∀ j, j < H r → A r j = 0) (hz' : ∀ r, r < k' → ∀ j, j < H' r → A' r j = 0) (hS : ∀ r, r < k' → Spn k (fun _ => True) A (A' r)) {r' : Nat} (hr' : r' < k') : ∃ r, r < k ∧ H r = H' r' := by
  refine Classical.byContradiction fun hno => h01 ?_
  obtain ⟨c, -, hc⟩ := hS r' hr'
  have hcr : ∀ r, r < k → c r = A' r' (H r) := fun r hr => by rw [hc (H r), hR.at hr]
  rw [← (hR' r' hr').2.1, hc]
  refine su_z k (fun r hr => ?_)
  try dsimp only
  rcases Nat.lt_trichotomy (H r) (H' r') with q | q | q
  · rw [hcr r hr, hz' r' hr' _ q]; grind
  · exact absurd ⟨r, hr, q⟩ hno
  · rw [hz r hr _ q]; grind
theorem ech_row {K : Type} [Lean.Grind.CommRing K] (h01 : (1 : K) ≠ 0) {w k k' : Nat} {A A' : Nat → Nat → K} {H H' : Nat → Nat} (hR : RK w k A H) (hR' : RK w k' A' H') (hh : ∀ r', r' < k' → ∃ r, r < k ∧ H r = H' r') {r r' : Nat} (hr : r < k) (hr' : r' < k') (e : H r = H' r') (hS : Spn k' (fun _ => True) A' (A r)) (j : Nat) : A r j = A' r' j := by
  obtain ⟨c, -, hc⟩ := hS
  have hcs : ∀ s, s < k' → c s = A r (H' s) := fun s hs => by rw [hc (H' s), hR'.at hs]
  rw [hc j, su_one hr' _ (fun s hs hne => ?_)]
  · try dsimp only
    rw [hcs r' hr', ← e, (hR r hr).2.1]; grind
  · try dsimp only
    obtain ⟨q, hq, eq⟩ := hh s hs
    rw [hcs s hs, ← eq, (hR q hq).2.2 r hr (fun z => hne (hR'.inj h01 hs hr' (by rw [← eq, ← z, e])))]; grind
theorem sol_uni {K : Type} [Lean.Grind.CommRing K] (h01 : (1 : K) ≠ 0) {w k k' : Nat} {A A' : Nat → Nat → K} {H H' : Nat → Nat} (hR : RK w k A H) (hR' : RK w k' A' H') (hz : ∀ r, r < k → ∀ j, j < H r → A r j = 0) (hz' : ∀ r, r < k' → ∀ j, j < H' r → A' r j = 0) (hS : ∀ v, Spn k' (fun _ => True) A' v ↔ Spn k (fun _ => True) A v) (g z : Nat) : sol k A H g z = sol k' A' H' g z := by
  have h1 : ∀ r', r' < k' → ∃ r, r < k ∧ H r = H' r' := fun r' hr' => ech_heads h01 hR hR' hz hz' (fun r hr => (hS _).mp (Spn.one hr trivial)) hr'
  have h2 : ∀ r', r' < k → ∃ r, r < k' ∧ H' r = H r' := fun r' hr' => ech_heads h01 hR' hR hz' hz (fun r hr => (hS _).mpr (Spn.one hr trivial)) hr'
  unfold sol
  congr 1
  by_cases e : ∃ r, r < k ∧ H r = z
  · obtain ⟨r, hr, e⟩ := e
    obtain ⟨r', hr', e'⟩ := h2 r hr
    rw [su_one hr _ (fun s hs hne => if_neg (fun q => hne (hR.inj h01 hs hr (q.trans e.symm)))), su_one hr' _ (fun s hs hne => if_neg (fun q => hne (hR'.inj h01 hs hr' (q.trans (e.symm.trans e'.symm))))), if_pos e, if_pos (e'.trans e)]
    exact ech_row h01 hR hR' h1 hr hr' e'.symm ((hS _).mpr (Spn.one hr trivial)) g
  · rw [su_z k (fun r hr => if_neg (fun q => e ⟨r, hr, q⟩)), su_z k' (fun r' hr' => if_neg (fun q => by
      obtain ⟨r, hr, q2⟩ := h1 r' hr'
      exact e ⟨r, hr, q2.trans q⟩))]
theorem fre_uni {K : Type} [Lean.Grind.CommRing K] (h01 : (1 : K) ≠ 0) {w k k' : Nat} {A A' : Nat → Nat → K} {H H' : Nat → Nat} (hR : RK w k A H) (hR' : RK w k' A' H') (hz : ∀ r, r < k → ∀ j, j < H r → A r j = 0) (hz' : ∀ r, r < k' → ∀ j, j < H' r → A' r j = 0) (hS : ∀ v, Spn k' (fun _ => True) A' v ↔ Spn k (fun _ => True) A v) (g : Nat) : fre H k g = true ↔ fre H' k' g = true := by
  rw [fre_t, fre_t]
  constructor
  · intro q r hr e
    obtain ⟨r2, h2, e2⟩ := ech_heads h01 hR hR' hz hz' (fun r hr => (hS _).mp (Spn.one hr trivial)) hr
    exact q r2 h2 (e2.trans e)
  · intro q r hr e
    obtain ⟨r2, h2, e2⟩ := ech_heads h01 hR' hR hz' hz (fun r hr => (hS _).mpr (Spn.one hr trivial)) hr
    exact q r2 h2 (e2.trans e)
theorem nf_cg {hd hd' : Nat → Int} : ∀ f, (∀ j, j < f → (hd j = -1 ↔ hd' j = -1)) → nf hd f = nf hd' f
  | 0, _ => rfl
  | f + 1, h => by
    have ih := nf_cg f (fun j hj => h j (by omega))
    by_cases e : hd f = -1
    · rw [nf_t e, nf_t ((h f (by omega)).mp e), ih]
    · rw [nf_f e, nf_f (fun q => e ((h f (by omega)).mpr q)), ih]
theorem vvS_rg {p : Nat} {M : Nat → Nat → Int} {ld : Nat → Int} {z c : Nat} {v0 : Int} (h0 : 0 ≤ v0 ∧ v0 < p) : ∀ k, 0 ≤ vvS p M ld z c v0 k ∧ vvS p M ld z c v0 k < p
  | 0 => h0
  | k + 1 => by
    have ih := vvS_rg (M := M) (ld := ld) (z := z) (c := c) h0 k
    unfold vvS
    split
    · exact emod_rg (by omega)
    · exact ih
/-- the class's and the model's solutions are the same -/
theorem turn_link {K : Type} [Lean.Grind.CommRing K] {p : Nat} {f : Int → K} (hf : Iot p f) (hp : 2 ≤ p) {w k k' m : Nat} (hw : w ≤ 8) (hk4 : k ≤ 4) {M M' G G' : Nat → Nat → Int} {hd ld : Nat → Int} (h1 : Rf w k M hd) (h2 : inP M p) (h3 : ∀ v, Sp p k w M v ↔ Sp p m w G v)
    (h4 : RK w k' (fun i => tr w f (M' i)) (fun r => (ld r).toNat)) (h5 : Lds k' w k' M' ld) (h6 : ∀ v, Spn k' (fun _ => True) (fun i => tr w f (M' i)) v ↔ Spn m (fun _ => True) (fun i => tr w f (G' i)) v) (hG : ∀ i j, i < m → j < w → G i j = G' i j) :
    (∀ g, g < w → (hd g = -1 ↔ hdm ld k' g = -1)) ∧ ∀ g z, g < w → z < w → hd g = -1 → rst p M hd z g = vvS p M' ld z g (if z = g then 1 else 0) k' := by
  have h01 := hf.ne hp
  obtain ⟨H, rk, hH, hfr⟩ := h1.toRK hf
  have hS : ∀ v, Spn k' (fun _ => True) (fun i => tr w f (M' i)) v ↔ Spn k (fun _ => True) (fun r => tr w f (M r)) v := fun v => by
    rw [h6 v, Sp_iff hf h3 v]
    refine Spn_cgt (fun i hi j => ?_) v
    by_cases e : j < w
    · rw [tr_lt e, tr_lt e, hG i j hi e]
    · rw [tr_ge (by omega), tr_ge (by omega)]
  have z1 : ∀ r, r < k → ∀ j, j < H r → tr w f (M r) j = 0 := fun r hr j hj => by
    obtain ⟨a1, a2⟩ := hH r hr
    rw [tr_lt (by omega), (h1.2.2.2.2.1 (H r) r a1 a2).2.2 j hj]
    exact hf.zero
  have z2 : ∀ r, r < k' → ∀ j, j < (ld r).toNat → tr w f (M' r) j = 0 := fun r hr j hj => by
    obtain ⟨a1, a2, a3, a4, a5⟩ := h5 r hr
    rw [tr_lt (by omega), a5 j (by omega)]
    exact hf.zero
  have hfm : ∀ g, fre (fun r => (ld r).toNat) k' g = true ↔ hdm ld k' g = -1 := fun g => by
    rw [fre_t, hdm_f]
    constructor
    · intro q r hr e
      have := (h5 r hr).1
      exact q r hr (by omega)
    · intro q r hr e
      have := (h5 r hr).1
      exact q r hr (by omega)
  have hfree : ∀ g, g < w → (hd g = -1 ↔ hdm ld k' g = -1) := fun g hg => by
    rw [← hfr g hg, ← hfm g]
    exact fre_uni h01 rk h4 z1 z2 hS g
  refine ⟨hfree, fun g z hg hz hgf => ?_⟩
  refine hf.inj (rst_lt h2 hp (h1.hr hk4 z (by omega)) (by omega)) (vvS_rg (by split <;> omega) k') ?_
  rw [rst_sol hf h1 hH hg hgf hz, vvS_K hf h01 h4 (fun r hr => (h5 r hr).1) hg ((hfm g).mpr ((hfree g hg).mp hgf))]
  exact sol_uni h01 rk h4 z1 z2 hS g z

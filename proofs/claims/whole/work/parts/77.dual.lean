/-! coordinates in the bars -/
theorem Bar.dual {K : Type} [Lean.Grind.CommRing K] {n D : Nat} {s : Nat → Nat} {Lf : Nat → Bool} {T : Nat → Nat → Nat → K} {R : Nat} {st en : Nat → Nat} {x : Nat → Nat → Nat → K} (h : Bar n D s Lf T R st en x) : ∃ φ : Nat → Nat → Nat → K, (∀ k r i, ¬ lv st en k r → φ k r i = 0) ∧ (∀ k, k < n → ∀ v : Nat → K, (∀ i, s k ≤ i → v i = 0) → ∀ j, v j = su R (fun r => su (s k) (fun i => φ k r i * v i) * x r k j)) ∧ (∀ k, k < n → ∀ c : Nat → K, (∀ r, ¬ lv st en k r → c r = 0) → ∀ r, r < R → su (s k) (fun i => φ k r i * su R (fun q => c q * x q k i)) = c r) := by
  classical
  obtain ⟨h1, h2, h3, h4, h5, h6, h7⟩ := h
  have hch : ∃ φ : Nat → Nat → Nat → K, (∀ k r i, ¬ lv st en k r → φ k r i = 0) ∧ ∀ k, k < n → ∀ i, i < s k → ∀ j, e1 i j = su R (fun r => φ k r i * x r k j) := by
    have hs : ∀ k, k < n → ∀ i, i < s k → Spn R (lv st en k) (fun r => x r k) (e1 i) := fun k hk i hi => h5 k hk _ (fun j hj => if_neg (by omega))
    refine ⟨fun k r i => if q : k < n ∧ i < s k then Classical.choose (hs k q.1 i q.2) r else 0, fun k r i hn => ?_, fun k hk i hi j => ?_⟩
    · dsimp only
      by_cases q : k < n ∧ i < s k
      · rw [dif_pos q]; exact (Classical.choose_spec (hs k q.1 i q.2)).1 r hn
      · rw [dif_neg q]
    · have := (Classical.choose_spec (hs k hk i hi)).2 j
      rw [this]
      exact su_cg R (fun r _ => by dsimp only; rw [dif_pos ⟨hk, hi⟩])
  obtain ⟨φ, f1, f2⟩ := hch
  have f3 : ∀ k, k < n → ∀ v : Nat → K, (∀ i, s k ≤ i → v i = 0) → ∀ j, v j = su R (fun r => su (s k) (fun i => φ k r i * v i) * x r k j) := fun k hk v hv j => by
    rw [su_e1 hv j, su_cg (s k) (g := fun i => su R (fun r => φ k r i * v i * x r k j)) (fun i hi => by
      rw [f2 k hk i hi j, ← su_mul]
      exact su_cg R (fun r _ => by grind)), su_swap]
    exact su_cg R (fun r _ => su_mulr (s k) _ _)
  refine ⟨φ, f1, f3, fun k hk c hc r hr => ?_⟩
  have hv : ∀ i, s k ≤ i → su R (fun q => c q * x q k i) = 0 := fun i hi => su_z R (fun q hq => by rw [h3 q k i hq hi]; grind)
  have e := f3 k hk (fun i => su R (fun q => c q * x q k i)) hv
  have := h4 k hk (fun r => su (s k) (fun i => φ k r i * su R (fun q => c q * x q k i)) - c r) (fun q hq => by
    skip
    rw [hc q hq, su_z (s k) (fun i _ => by rw [f1 k q i hq]; grind)]; grind) (fun j => by
    have e9 := e j
    rw [su_cg R (g := fun r => su (s k) (fun i => φ k r i * su R (fun q => c q * x q k i)) * x r k j - c r * x r k j) (fun r _ => by grind), su_sub, ← e9]
    grind) r hr
  skip
  grind
/-! rows that are brought to least rows: each has a place where it alone is 1 -/
def RK {K : Type} [Lean.Grind.CommRing K] (w k : Nat) (M : Nat → Nat → K) (H : Nat → Nat) : Prop := ∀ r, r < k → H r < w ∧ M r (H r) = 1 ∧ ∀ i, i < k → i ≠ r → M i (H r) = 0
theorem RK.inj {K : Type} [Lean.Grind.CommRing K] (h01 : (1 : K) ≠ 0) {w k : Nat} {M : Nat → Nat → K} {H : Nat → Nat} (h : RK w k M H) {r q : Nat} (hr : r < k) (hq : q < k) (e : H r = H q) : r = q := by
  refine Classical.byContradiction fun hne => h01 ?_
  have a := (h r hr).2.1
  have b := (h q hq).2.2 r hr hne
  rw [← e, a] at b
  exact b
theorem RK.at {K : Type} [Lean.Grind.CommRing K] {w k : Nat} {M : Nat → Nat → K} {H : Nat → Nat} (h : RK w k M H) {r : Nat} (hr : r < k) (c : Nat → K) : su k (fun i => c i * M i (H r)) = c r := by
  obtain ⟨a1, a2, a3⟩ := h r hr
  rw [su_one hr _ (fun i hi hne => by rw [a3 i hi hne]; grind), a2]
  grind
theorem RK.ind {K : Type} [Lean.Grind.CommRing K] {w k : Nat} {M : Nat → Nat → K} {H : Nat → Nat} (h : RK w k M H) : Ind k (fun _ => True) M := by
  intro c _ hc r hr
  rw [← h.at hr c]
  exact hc (H r)
/-- number of places that are heads -/
theorem cnt_img {H : Nat → Nat} {w : Nat} : ∀ k, (∀ r, r < k → H r < w) → (∀ r q, r < k → q < k → H r = H q → r = q) → cnt w (fun j => (List.range k).all (fun r => H r != j)) = w - k ∧ k ≤ w
  | 0, _, _ => ⟨cnt_all w (fun r _ => by simp), Nat.zero_le _⟩
  | k + 1, h1, h2 => by
    obtain ⟨ih, ih2⟩ := cnt_img (H := H) (w := w) k (fun r hr => h1 r (by omega)) (fun r q hr hq => h2 r q (by omega) (by omega))
    have key : ∀ n, n ≤ w → cnt n (fun j => (List.range (k + 1)).all (fun r => H r != j)) + (if H k < n then 1 else 0) = cnt n (fun j => (List.range k).all (fun r => H r != j)) := by
      intro n
      induction n with
      | zero => intro _; simp [cnt]
      | succ n ihn =>
        intro hn
        have e := ihn (by omega)
        simp only [cnt]
        rw [← e]
        have hB : ((List.range (k + 1)).all (fun r => H r != n)) = true ↔ ((List.range k).all (fun r => H r != n)) = true ∧ H k ≠ n := by
          rw [List.range_succ, List.all_append]
          simp
        by_cases q : H k = n
        · rw [if_neg (fun z => (hB.mp z).2 q), if_pos (show H k < n + 1 by omega), if_neg (show ¬ H k < n by omega), if_pos]
          · rw [List.all_eq_true]
            intro r hr
            rw [List.mem_range] at hr
            simp only [bne_iff_ne, ne_eq]
            intro z
            have := h2 r k (by omega) (by omega) (z.trans q.symm)
            omega
        · by_cases z : ((List.range k).all (fun r => H r != n)) = true
          · rw [if_pos (hB.mpr ⟨z, q⟩), if_pos z]
            by_cases l : H k < n
            · rw [if_pos l, if_pos (by omega)]
            · rw [if_neg l, if_neg (by omega)]
          · rw [if_neg (fun y => z (hB.mp y).1), if_neg z]
            by_cases l : H k < n
            · rw [if_pos l, if_pos (by omega)]
            · rw [if_neg l, if_neg (by omega)]
    have e := key w (Nat.le_refl _)
    rw [if_pos (h1 k (by omega)), ih] at e
    have := cnt_le (fun j => (List.range (k + 1)).all (fun r => H r != j)) w
    have hlt : k < w := by
      rcases Nat.lt_or_ge k w with q | q
      · exact q
      · omega
    omega
def fre (H : Nat → Nat) (k : Nat) : Nat → Bool := fun j => (List.range k).all (fun r => H r != j)
theorem fre_t {H : Nat → Nat} {k j : Nat} : fre H k j = true ↔ ∀ r, r < k → H r ≠ j := by
  unfold fre
  rw [List.all_eq_true]
  constructor
  · intro h r hr
    have := h r (List.mem_range.mpr hr)
    simpa using this
  · intro h r hr
    have := h r (List.mem_range.mp hr)
    simpa using this
/-- the solution that belongs to a free place -/
def sol {K : Type} [Lean.Grind.CommRing K] (k : Nat) (M : Nat → Nat → K) (H : Nat → Nat) (g : Nat) : Nat → K := fun i => e1 g i - su k (fun r => if H r = i then M r g else 0)
theorem sol_free {K : Type} [Lean.Grind.CommRing K] {k : Nat} {M : Nat → Nat → K} {H : Nat → Nat} {g i : Nat} (hi : fre H k i = true) : sol k M H g i = e1 g i := by
  unfold sol
  rw [su_z k (fun r hr => if_neg (fre_t.mp hi r hr))]
  grind
theorem RK.sol_head {K : Type} [Lean.Grind.CommRing K] (h01 : (1 : K) ≠ 0) {w k : Nat} {M : Nat → Nat → K} {H : Nat → Nat} (h : RK w k M H) {g r : Nat} (hr : r < k) (hg : fre H k g = true) : sol k M H g (H r) = - M r g := by
  unfold sol e1
  rw [if_neg (fre_t.mp hg r hr), su_one hr _ (fun q hq hne => if_neg (fun e => hne (h.inj h01 hq hr e))), if_pos rfl]
  grind
theorem RK.sols {K : Type} [Lean.Grind.CommRing K] (h01 : (1 : K) ≠ 0) {w k : Nat} {M : Nat → Nat → K} {H : Nat → Nat} (h : RK w k M H) (v : Nat → K) (hv : ∀ i, w ≤ i → v i = 0) : (∀ r, r < k → su w (fun j => M r j * v j) = 0) ↔ Spn w (fun g => fre H k g = true) (fun g => sol k M H g) v := by
  have hsum : ∀ (u : Nat → K) r, r < k → su w (fun j => M r j * u j) = u (H r) + su w (fun j => if fre H k j = true then M r j * u j else 0) := fun u r hr => by
    obtain ⟨a1, a2, a3⟩ := h r hr
    rw [su_at a1, a2, su_cg w (f := fun i => if i = H r then 0 else M r i * u i) (g := fun j => if fre H k j = true then M r j * u j else 0) (fun j hj => ?_)]
    · grind
    · by_cases e : fre H k j = true
      · rw [if_pos e, if_neg (fun z => fre_t.mp e r hr z.symm)]
      · rw [if_neg e]
        by_cases z : j = H r
        · rw [if_pos z]
        · rw [if_neg z]
          have : ∃ q, q < k ∧ H q = j := Classical.byContradiction fun y => e (fre_t.mpr fun q hq hj9 => y ⟨q, hq, hj9⟩)
          obtain ⟨q, hq, rfl⟩ := this
          rw [(h q hq).2.2 r hr (fun y => z (by rw [y]))]
          grind
  constructor
  · intro hz
    refine ⟨fun g => if fre H k g = true then v g else 0, fun g hg => if_neg hg, fun i => ?_⟩
    by_cases hi : i < w
    · by_cases e : fre H k i = true
      · rw [su_one hi _ (fun g hg hne => by
          dsimp only
          by_cases q : fre H k g = true
          · rw [sol_free e]; unfold e1; rw [if_neg (Ne.symm hne)]; grind
          · rw [if_neg q]; grind)]
        dsimp only
        rw [if_pos e, sol_free e]
        unfold e1
        rw [if_pos rfl]
        grind
      · have : ∃ q, q < k ∧ H q = i := Classical.byContradiction fun y => e (fre_t.mpr fun q hq hj9 => y ⟨q, hq, hj9⟩)
        obtain ⟨r, hr, rfl⟩ := this
        have h9 := hz r hr
        rw [hsum v r hr] at h9
        rw [su_cg w (g := fun j => (-1) * (if fre H k j = true then M r j * v j else 0)) (fun g hg => by
          dsimp only
          by_cases q : fre H k g = true
          · rw [if_pos q, if_pos q, h.sol_head h01 hr q]; grind
          · rw [if_neg q, if_neg q]; grind), su_mul]
        grind
    · rw [hv i (by omega), su_z w (fun g hg => ?_)]
      dsimp only
      by_cases q : fre H k g = true
      · rw [sol_free (fre_t.mpr fun r hr e => by have := (h r hr).1; omega)]
        unfold e1
        rw [if_pos q, if_neg (by omega)]; grind
      · rw [if_neg q]; grind
  · rintro ⟨c, c1, c2⟩ r hr
    rw [su_cg w (g := fun j => su w (fun g => c g * (M r j * sol k M H g j))) (fun j _ => by
      rw [c2 j, ← su_mul]
      exact su_cg w (fun g _ => by grind)), su_swap]
    refine su_z w (fun g hg => ?_)
    rw [su_mul]
    by_cases q : fre H k g = true
    · rw [hsum (sol k M H g) r hr, h.sol_head h01 hr q, su_one hg _ (fun j hj hne => by
        skip
        by_cases z : fre H k j = true
        · rw [if_pos z, sol_free z]; unfold e1; rw [if_neg hne]; grind
        · rw [if_neg z])]
      skip
      rw [if_pos q, sol_free q]
      unfold e1
      rw [if_pos rfl]
      grind
    · rw [c1 g q]; grind
theorem RK.solInd {K : Type} [Lean.Grind.CommRing K] {w k : Nat} {M : Nat → Nat → K} {H : Nat → Nat} : Ind w (fun g => fre H k g = true) (fun g => sol k M H g) := by
  intro c c1 c2 g hg
  by_cases q : fre H k g = true
  · have := c2 g
    rw [su_one hg _ (fun j hj hne => by
      dsimp only
      rw [sol_free q]; unfold e1; rw [if_neg (Ne.symm hne)]; grind)] at this
    dsimp only at this
    rw [sol_free q] at this
    unfold e1 at this
    rw [if_pos rfl] at this
    grind
  · exact c1 g q
theorem RK.free {K : Type} [Lean.Grind.CommRing K] (h01 : (1 : K) ≠ 0) {w k : Nat} {M : Nat → Nat → K} {H : Nat → Nat} (h : RK w k M H) : cnt w (fre H k) = w - k ∧ k ≤ w := cnt_img k (fun r hr => (h r hr).1) (fun r q hr hq e => h.inj h01 hr hq e)

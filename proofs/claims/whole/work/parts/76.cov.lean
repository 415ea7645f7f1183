/-! spaces led along an arrow (back along one to the left), in bars -/
def Ldv {K : Type} [Lean.Grind.CommRing K] (D : Nat) (s : Nat → Nat) (Lf : Nat → Bool) (T : Nat → Nat → Nat → K) (k : Nat) (V : (Nat → K) → Prop) : (Nat → K) → Prop := fun v => if Lf k = true then (∀ i, s (k + 1) ≤ i → v i = 0) ∧ V (Fk D T k v) else ∃ u, V u ∧ ∀ i, v i = Fk D T k u i
theorem Bar.led {K : Type} [Lean.Grind.CommRing K] {n D : Nat} {s : Nat → Nat} {Lf : Nat → Bool} {T : Nat → Nat → Nat → K} {R : Nat} {st en : Nat → Nat} {x : Nat → Nat → Nat → K} (h : Bar n D s Lf T R st en x) {k : Nat} (hk : k + 1 < n) (hT : ∀ i j, (if Lf k = true then s k else s (k + 1)) ≤ i → T k i j = 0) {C : Nat → Prop} (hC : ∀ r, C r → lv st en k r) {V : (Nat → K) → Prop} (hV : ∀ v, V v ↔ Spn R C (fun r => x r k) v) (v : Nat → K) : Ldv D s Lf T k V v ↔ Spn R (fun r => (C r ∧ k + 1 ≤ en r) ∨ (Lf k = true ∧ st r = k + 1 ∧ k + 1 ≤ en r)) (fun r => x r (k + 1)) v := by
  obtain ⟨h1, h2, h3, h4, h5, h6, h7⟩ := h
  unfold Ldv
  cases e : Lf k with
  | false =>
    rw [if_neg (by decide)]
    constructor
    · rintro ⟨u, hu, hv⟩
      obtain ⟨c, c1, c2⟩ := (hV u).mp hu
      refine ⟨fun r => if k + 1 ≤ en r then c r else 0, fun r hr => ?_, fun i => ?_⟩
      · dsimp only
        by_cases q : k + 1 ≤ en r
        · rw [if_pos q]
          exact c1 r (fun z => hr (Or.inl ⟨z, q⟩))
        · rw [if_neg q]
      · rw [hv i, Fk_cg c2, Fk_su]
        refine su_cg R (fun r hr => ?_)
        dsimp only
        by_cases z : C r
        · rw [h6 k hk e r hr (hC r z).1 i]
          by_cases q : k + 1 ≤ en r
          · rw [if_pos q]
          · rw [if_neg q, h2 r (k + 1) i hr (Or.inr (by omega))]; grind
        · rw [c1 r z]
          by_cases q : k + 1 ≤ en r
          · rw [if_pos q]; grind
          · rw [if_neg q]; grind
    · rintro ⟨c, c1, c2⟩
      have hs : ∀ r, ¬ C r → c r = 0 := fun r hr => c1 r (by rintro (z | z); exact hr z.1; exact absurd z.1 (by decide))
      refine ⟨fun i => su R (fun r => c r * x r k i), (hV _).mpr ⟨c, hs, fun i => rfl⟩, fun i => ?_⟩
      rw [c2 i, Fk_su]
      refine su_cg R (fun r hr => ?_)
      by_cases z : C r
      · rw [h6 k hk e r hr (hC r z).1 i]
      · rw [hs r z]; grind
  | true =>
    rw [if_pos rfl]
    constructor
    · rintro ⟨hv, hF⟩
      obtain ⟨a, a1, a2⟩ := h5 (k + 1) hk v hv
      obtain ⟨c, c1, c2⟩ := (hV _).mp hF
      have ea : ∀ r, r < R → (if st r ≤ k then a r else 0) = c r := by
        intro r hr
        have := h4 k (by omega) (fun r => (if st r ≤ k then (if r < R then a r else 0) else 0) - c r) (fun q hq => by
          have : c q = 0 := c1 q (fun z => hq (hC q z))
          rw [this]
          by_cases l : st q ≤ k
          · rw [if_pos l]
            by_cases l2 : q < R
            · rw [if_pos l2, a1 q (fun z => hq ⟨l, by have := z.2; omega⟩)]; grind
            · rw [if_neg l2]; grind
          · rw [if_neg l]; grind) (fun i => by
          have e1 : Fk D T k v i = su R (fun r => (if st r ≤ k then a r else 0) * x r k i) := by
            rw [Fk_cg a2, Fk_su]
            refine su_cg R (fun r hr => ?_)
            by_cases z : lv st en (k + 1) r
            · rw [h7 k hk e r hr z.2 i]
              by_cases l : st r ≤ k
              · rw [if_pos l]
              · rw [if_neg l, h2 r k i hr (Or.inl (by omega))]; grind
            · rw [a1 r z]
              by_cases l : st r ≤ k
              · rw [if_pos l]; grind
              · rw [if_neg l]; grind
          have e2 := c2 i
          rw [e1] at e2
          rw [su_cg R (g := fun r => (if st r ≤ k then a r else 0) * x r k i - c r * x r k i) (fun r hr => by rw [if_pos hr]; grind), su_sub, e2]
          grind) r hr
        rw [if_pos hr] at this
        grind
      refine ⟨fun r => if r < R then a r else 0, fun r hr => ?_, fun i => ?_⟩
      · dsimp only
        by_cases l2 : r < R
        · rw [if_pos l2]
          refine Classical.byContradiction fun hne => hr ?_
          have hl : lv st en (k + 1) r := Classical.byContradiction fun z => hne (a1 r z)
          by_cases l : st r ≤ k
          · left
            refine ⟨Classical.byContradiction fun z => hne ?_, hl.2⟩
            have := ea r l2
            rw [if_pos l, c1 r z] at this
            exact this
          · right
            exact ⟨rfl, by have := hl.1; omega, hl.2⟩
        · rw [if_neg l2]
      · rw [a2 i]
        exact su_cg R (fun r hr => by dsimp only; rw [if_pos hr])
    · rintro ⟨c, c1, c2⟩
      refine ⟨fun i hi => ?_, (hV _).mpr ⟨fun r => if st r ≤ k then (if r < R then c r else 0) else 0, fun r hr => ?_, fun i => ?_⟩⟩
      · rw [c2 i]
        exact su_z R (fun r hr => by dsimp only; rw [h3 r (k + 1) i hr hi]; grind)
      · dsimp only
        by_cases l : st r ≤ k
        · rw [if_pos l]
          by_cases l2 : r < R
          · rw [if_pos l2]
            exact c1 r (by rintro (z | z); exact hr z.1; have := z.2.1; omega)
          · rw [if_neg l2]
        · rw [if_neg l]
      · rw [Fk_cg c2, Fk_su]
        refine su_cg R (fun r hr => ?_)
        dsimp only
        rw [if_pos hr]
        by_cases z : c r = 0
        · rw [z]
          by_cases l : st r ≤ k
          · rw [if_pos l]; grind
          · rw [if_neg l]; grind
        · have hen : k + 1 ≤ en r := Classical.byContradiction fun q => z (c1 r (by rintro (w | w); exact q w.2; exact q w.2.2))
          rw [h7 k hk e r hr hen i]
          by_cases l : st r ≤ k
          · rw [if_pos l]
          · rw [if_neg l, h2 r k i hr (Or.inl (by omega))]; grind
/-- bars of the whole of post a, and of 0 there, led on to post k -/
def Cw (Lf : Nat → Bool) (st en : Nat → Nat) (a k : Nat) : Nat → Bool := fun r => decide (st r ≤ k ∧ k ≤ en r) && (decide (st r ≤ a) || Lf (st r - 1))
def Cn (Lf : Nat → Bool) (st en : Nat → Nat) (a k : Nat) : Nat → Bool := fun r => decide (st r ≤ k ∧ k ≤ en r) && (decide (a < st r) && Lf (st r - 1))
def cov (R : Nat) (st en : Nat → Nat) (a k : Nat) : Nat := cnt R (fun r => decide (st r ≤ a ∧ k ≤ en r))
theorem Cw_s {Lf : Nat → Bool} {st en : Nat → Nat} {a k r : Nat} (hak : a ≤ k) : Cw Lf st en a (k + 1) r = true ↔ ((Cw Lf st en a k r = true ∧ k + 1 ≤ en r) ∨ (Lf k = true ∧ st r = k + 1 ∧ k + 1 ≤ en r)) := by
  unfold Cw
  simp only [Bool.and_eq_true, Bool.or_eq_true, decide_eq_true_eq]
  constructor
  · rintro ⟨⟨z1, z2⟩, z3⟩
    by_cases q : st r ≤ k
    · left; exact ⟨⟨⟨q, by omega⟩, z3⟩, z2⟩
    · right
      have e : st r = k + 1 := by omega
      refine ⟨?_, e, z2⟩
      rcases z3 with z3 | z3
      · omega
      · rwa [e, show k + 1 - 1 = k by omega] at z3
  · rintro (⟨⟨⟨z1, z2⟩, z3⟩, z4⟩ | ⟨z1, z2, z3⟩)
    · exact ⟨⟨by omega, z4⟩, z3⟩
    · exact ⟨⟨by omega, z3⟩, Or.inr (by rw [z2, show k + 1 - 1 = k by omega]; exact z1)⟩
theorem Cn_s {Lf : Nat → Bool} {st en : Nat → Nat} {a k r : Nat} (hak : a ≤ k) : Cn Lf st en a (k + 1) r = true ↔ ((Cn Lf st en a k r = true ∧ k + 1 ≤ en r) ∨ (Lf k = true ∧ st r = k + 1 ∧ k + 1 ≤ en r)) := by
  unfold Cn
  simp only [Bool.and_eq_true, decide_eq_true_eq]
  constructor
  · rintro ⟨⟨z1, z2⟩, z3, z4⟩
    by_cases q : st r ≤ k
    · left; exact ⟨⟨⟨q, by omega⟩, z3, z4⟩, z2⟩
    · right
      have e : st r = k + 1 := by omega
      refine ⟨?_, e, z2⟩
      rwa [e, show k + 1 - 1 = k by omega] at z4
  · rintro (⟨⟨⟨z1, z2⟩, z3⟩, z4⟩ | ⟨z1, z2, z3⟩)
    · exact ⟨⟨by omega, z4⟩, z3⟩
    · exact ⟨⟨by omega, z3⟩, by omega, by rw [z2, show k + 1 - 1 = k by omega]; exact z1⟩
theorem cnt_wn {Lf : Nat → Bool} {st en : Nat → Nat} {a k : Nat} (hak : a ≤ k) : ∀ R, cnt R (Cw Lf st en a k) = cnt R (Cn Lf st en a k) + cov R st en a k
  | 0 => rfl
  | R + 1 => by
    have ih := cnt_wn (Lf := Lf) (st := st) (en := en) hak R
    unfold cov at ih ⊢
    simp only [cnt]
    rw [ih]
    have w1 : Cw Lf st en a k R = true ↔ (st R ≤ k ∧ k ≤ en R) ∧ (st R ≤ a ∨ Lf (st R - 1) = true) := by unfold Cw; simp only [Bool.and_eq_true, Bool.or_eq_true, decide_eq_true_eq]
    have w2 : Cn Lf st en a k R = true ↔ (st R ≤ k ∧ k ≤ en R) ∧ (a < st R ∧ Lf (st R - 1) = true) := by unfold Cn; simp only [Bool.and_eq_true, decide_eq_true_eq]
    simp only [w1, w2, decide_eq_true_eq]
    by_cases q1 : st R ≤ a
    · by_cases q2 : k ≤ en R
      · rw [if_pos ⟨⟨by omega, q2⟩, Or.inl q1⟩, if_neg (by omega), if_pos ⟨q1, q2⟩]; omega
      · rw [if_neg (fun z => q2 z.1.2), if_neg (fun z => q2 z.1.2), if_neg (fun z => q2 z.2)]; omega
    · rw [if_neg (c := st R ≤ a ∧ k ≤ en R) (fun z => q1 z.1)]
      by_cases q3 : (st R ≤ k ∧ k ≤ en R) ∧ Lf (st R - 1) = true
      · rw [if_pos ⟨q3.1, Or.inr q3.2⟩, if_pos ⟨q3.1, by omega, q3.2⟩]; omega
      · rw [if_neg (fun z => q3 ⟨z.1, z.2.resolve_left q1⟩), if_neg (fun z => q3 ⟨z.1, z.2.2⟩)]; omega
theorem cov_mono {R : Nat} {st en : Nat → Nat} {a k : Nat} : cov R st en a (k + 1) ≤ cov R st en a k := cnt_mono R (fun r _ h => by simp only [decide_eq_true_eq] at h ⊢; omega)
/-- number of bars just from a to b -/
def mul (R : Nat) (st en : Nat → Nat) (a b : Nat) : Nat := cnt R (fun r => decide (st r = a ∧ en r = b))
theorem mul_s {st en : Nat → Nat} {a b : Nat} : ∀ R, ((mul R st en (a + 1) b : Nat) : Int) = cov R st en (a + 1) b - cov R st en a b - cov R st en (a + 1) (b + 1) + cov R st en a (b + 1)
  | 0 => rfl
  | R + 1 => by
    have ih := mul_s (st := st) (en := en) (a := a) (b := b) R
    unfold mul cov at ih ⊢
    simp only [cnt, decide_eq_true_eq]
    by_cases q1 : st R ≤ a
    · by_cases q2 : b + 1 ≤ en R
      · rw [if_neg (by omega), if_pos (by omega), if_pos (by omega), if_pos (by omega), if_pos (by omega)]; omega
      · by_cases q3 : b = en R
        · rw [if_neg (by omega), if_pos (by omega), if_pos (by omega), if_neg (by omega), if_neg (by omega)]; omega
        · rw [if_neg (by omega), if_neg (by omega), if_neg (by omega), if_neg (by omega), if_neg (by omega)]; omega
    · by_cases q4 : st R = a + 1
      · by_cases q2 : b + 1 ≤ en R
        · rw [if_neg (by omega), if_pos (by omega), if_neg (by omega), if_pos (by omega), if_neg (by omega)]; omega
        · by_cases q3 : b = en R
          · rw [if_pos (by omega), if_pos (by omega), if_neg (by omega), if_neg (by omega), if_neg (by omega)]; omega
          · rw [if_neg (by omega), if_neg (by omega), if_neg (by omega), if_neg (by omega), if_neg (by omega)]; omega
      · rw [if_neg (by omega), if_neg (by omega), if_neg (by omega), if_neg (by omega), if_neg (by omega)]; omega
theorem mul_0 {st en : Nat → Nat} {b : Nat} : ∀ R, ((mul R st en 0 b : Nat) : Int) = cov R st en 0 b - cov R st en 0 (b + 1)
  | 0 => rfl
  | R + 1 => by
    have ih := mul_0 (st := st) (en := en) (b := b) R
    unfold mul cov at ih ⊢
    simp only [cnt, decide_eq_true_eq]
    by_cases q1 : st R ≤ 0
    · by_cases q2 : b + 1 ≤ en R
      · rw [if_neg (by omega), if_pos (by omega), if_pos (by omega)]; omega
      · by_cases q3 : b = en R
        · rw [if_pos (by omega), if_pos (by omega), if_neg (by omega)]; omega
        · rw [if_neg (by omega), if_neg (by omega), if_neg (by omega)]; omega
    · rw [if_neg (by omega), if_neg (by omega), if_neg (by omega)]; omega
theorem cov_top {R : Nat} {st en : Nat → Nat} {n a : Nat} (h : ∀ r, r < R → en r < n) : cov R st en a n = 0 := cnt_z R (fun r hr => by have := h r hr; simp; omega)

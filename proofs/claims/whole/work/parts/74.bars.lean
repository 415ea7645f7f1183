/-! one post more -/
theorem Ind.pad {K : Type} [Lean.Grind.CommRing K] {R b : Nat} {A A' : Nat → Prop} {x x' : Nat → Nat → K} (h : Ind R A x) (h1 : ∀ r, R ≤ r → r < R + b → ¬ A' r) (h2 : ∀ r, r < R → A' r → A r) (h3 : ∀ r i, r < R → x' r i = x r i) : Ind (R + b) A' x' := by
  intro c c1 c2 r hr
  by_cases e : r < R
  · refine (h.cgA h2) c c1 (fun i => ?_) r e
    have := c2 i
    rw [su_split, su_z b (fun q hq => by rw [c1 (R + q) (h1 _ (by omega) (by omega))]; grind), su_cg R (g := fun r => c r * x r i) (fun r hr => by rw [h3 r i hr])] at this
    grind
  · exact c1 r (h1 r (by omega) hr)
theorem Spn.pad {K : Type} [Lean.Grind.CommRing K] {R b : Nat} {A A' : Nat → Prop} {x x' : Nat → Nat → K} {v : Nat → K} (h : Spn R A x v) (h2 : ∀ r, r < R → A r → A' r) (h3 : ∀ r i, r < R → x' r i = x r i) : Spn (R + b) A' x' v := by
  refine Spn.le (fun r hr ha => ?_) h
  have := Spn.one (R := R + b) (A := A') (x := x') (r := r) (by omega) (h2 r hr ha)
  exact this.cg (fun i => (h3 r i hr).symm)
theorem Bar.stepR {K : Type} [Lean.Grind.CommRing K] (inv : ∀ x : K, x ≠ 0 → ∃ y, x * y = 1) {m D : Nat} {s : Nat → Nat} {Lf : Nat → Bool} {T : Nat → Nat → Nat → K} {R : Nat} {st en : Nat → Nat} {x : Nat → Nat → Nat → K} (h : Bar (m + 1) D s Lf T R st en x) {L : List Nat} (hn : L.Nodup) (hL : ∀ r, r ∈ L ↔ r < R ∧ en r = m) (hp : L.Pairwise (fun r q => Ad Lf (st q) (st r))) (hl : Lf m = false) (hT : ∀ i j, s (m + 1) ≤ i → T m i j = 0) : ∃ (R' : Nat) (st' en' : Nat → Nat) (x' : Nat → Nat → Nat → K) (L' : List Nat), Bar (m + 1 + 1) D s Lf T R' st' en' x' ∧ L'.Nodup ∧ (∀ r, r ∈ L' ↔ r < R' ∧ en' r = m + 1) ∧ L'.Pairwise (fun r q => Ad Lf (st' q) (st' r)) := by
  classical
  obtain ⟨x1, h1, -, hg⟩ := Bar.elim (fun v => ∀ i, Fk D T m v i = 0) L x h hn (fun q hq => (hL q).mp hq) hp
  have hU : ∀ (u v : Nat → K) (t : K), (∀ i, Fk D T m u i = 0) → (∀ i, Fk D T m v i = 0) → ∀ i, Fk D T m (fun i => u i + t * v i) i = 0 := fun u v t a b i => by
    rw [Fk_lin, a i, b i]; grind
  obtain ⟨g1, g2, g3, g4, g5, g6, g7⟩ := id h1
  let J : Nat → Prop := fun r => en r = m ∧ ¬ ∀ i, Fk D T m (x1 r m) i = 0
  let y : Nat → Nat → K := fun r => Fk D T m (x1 r m)
  have hJ : Ind R J y := by
    intro c c1 c2 r hr
    by_cases hj : J r
    · refine Good.only inv hU c L hg ?_ r ((hL r).mpr ⟨hr, hj.1⟩) hj.2
      intro i
      rw [Fk_cg (v := fun i => su R (fun r => c r * x1 r m i)) (fun i => (su_sl L _ hn (fun a ha => ((hL a).mp ha).1) (fun q hq hq2 => by
        rw [c1 q (fun z => hq2 ((hL q).mpr ⟨hq, z.1⟩))]; grind)).symm), Fk_su]
      exact c2 i
    · exact c1 r hj
  obtain ⟨b, z, z1, z2, z3⟩ := ext inv (d := s (m + 1)) hJ
  let st' : Nat → Nat := fun r => if r < R then st r else m + 1
  let en' : Nat → Nat := fun r => if r < R then (if J r then m + 1 else en r) else m + 1
  let x' : Nat → Nat → Nat → K := fun r k => if r < R then (if k = m + 1 then (if J r then y r else fun _ => 0) else x1 r k) else (if k = m + 1 then z (r - R) else fun _ => 0)
  have a_lo : ∀ r k, r < R → k ≠ m + 1 → x' r k = x1 r k := fun r k hr hk => by
    show (if r < R then _ else _) = _
    rw [if_pos hr, if_neg hk]
  have a_J : ∀ r, r < R → J r → x' r (m + 1) = y r := fun r hr hj => by
    show (if r < R then _ else _) = _
    rw [if_pos hr, if_pos rfl, if_pos hj]
  have a_N : ∀ r, r < R → ¬ J r → x' r (m + 1) = fun _ => 0 := fun r hr hj => by
    show (if r < R then _ else _) = _
    rw [if_pos hr, if_pos rfl, if_neg hj]
  have a_hi : ∀ r, ¬ r < R → x' r (m + 1) = z (r - R) := fun r hr => by
    show (if r < R then _ else _) = _
    rw [if_neg hr, if_pos rfl]
  have a_z : ∀ r k, ¬ r < R → k ≠ m + 1 → x' r k = fun _ => 0 := fun r k hr hk => by
    show (if r < R then _ else _) = _
    rw [if_neg hr, if_neg hk]
  have s_lo : ∀ r, r < R → st' r = st r := fun r hr => if_pos hr
  have s_hi : ∀ r, ¬ r < R → st' r = m + 1 := fun r hr => if_neg hr
  have e_J : ∀ r, r < R → J r → en' r = m + 1 := fun r hr hj => by
    show (if r < R then _ else _) = _
    rw [if_pos hr, if_pos hj]
  have e_N : ∀ r, r < R → ¬ J r → en' r = en r := fun r hr hj => by
    show (if r < R then _ else _) = _
    rw [if_pos hr, if_neg hj]
  have e_hi : ∀ r, ¬ r < R → en' r = m + 1 := fun r hr => if_neg hr
  have lvlo : ∀ k, k ≤ m → ∀ r, r < R → (lv st' en' k r ↔ lv st en k r) := fun k hk r hr => by
    unfold lv
    rw [s_lo r hr]
    by_cases hj : J r
    · rw [e_J r hr hj]
      have := hj.1
      omega
    · rw [e_N r hr hj]
  refine ⟨R + b, st', en', x', List.range' R b ++ L.filter (fun r => decide (J r)), ⟨fun r hr => ?_, fun r k i hr hk => ?_, fun r k i hr hi => ?_, fun k hk => ?_, fun k hk v hv => ?_, fun k hk hlk r hr hs i => ?_, fun k hk hlk r hr hs i => ?_⟩, ?_, fun r => ?_, ?_⟩
  · by_cases e : r < R
    · have := g1 r e
      rw [s_lo r e]
      by_cases hj : J r
      · rw [e_J r e hj]; omega
      · rw [e_N r e hj]; omega
    · rw [s_hi r e, e_hi r e]; omega
  · by_cases e : r < R
    · rw [s_lo r e] at hk
      have := g1 r e
      by_cases hj : J r
      · rw [e_J r e hj] at hk
        have h9 := hj.1
        by_cases ek : k = m + 1
        · omega
        · rw [a_lo r k e ek]; exact g2 r k i e (by omega)
      · rw [e_N r e hj] at hk
        by_cases ek : k = m + 1
        · rw [ek, a_N r e hj]
        · rw [a_lo r k e ek]; exact g2 r k i e hk
    · rw [s_hi r e, e_hi r e] at hk
      rw [a_z r k e (by omega)]
  · by_cases ek : k = m + 1
    · subst ek
      by_cases e : r < R
      · by_cases hj : J r
        · rw [a_J r e hj]
          exact su_z D (fun j _ => by rw [hT i j hi]; grind)
        · rw [a_N r e hj]
      · rw [a_hi r e]; exact z1 _ (by omega) i hi
    · by_cases e : r < R
      · rw [a_lo r k e ek]; exact g3 r k i e hi
      · rw [a_z r k e ek]
  · by_cases ek : k = m + 1
    · subst ek
      refine (z2.cgx (y := fun r => x' r (m + 1)) (fun r i hr ha => ?_)).cgA (fun r hr ha e => ?_)
      · by_cases e : r < R
        · rw [cat_lo e, a_J r e (ha e)]
        · rw [a_hi r e, show r = R + (r - R) by omega, cat_hi, show R + (r - R) - R = r - R by omega]
      · refine Classical.byContradiction fun hj => ?_
        have h8 := ha.2
        rw [e_N r e hj] at h8
        have := g1 r e
        omega
    · exact (g4 k (by omega)).pad (fun r h8 h9 ha => by have := ha.1; rw [s_hi r (by omega)] at this; omega) (fun r hr ha => (lvlo k (by omega) r hr).mp ha) (fun r i hr => by rw [a_lo r k hr ek])
  · by_cases ek : k = m + 1
    · subst ek
      refine Spn.cgx (Spn.cgA (z3 v hv) (B := fun r => lv st' en' (m + 1) r) (fun r hr ha => ?_)) (fun r i hr ha => ?_)
      · by_cases e : r < R
        · have h9 := ha e
          have := g1 r e
          refine ⟨by rw [s_lo r e]; omega, by rw [e_J r e h9]; omega⟩
        · exact ⟨by rw [s_hi r e]; omega, by rw [e_hi r e]; omega⟩
      · by_cases e : r < R
        · have hj : J r := Classical.byContradiction fun hj => by
            have h8 := ha.2
            rw [e_N r e hj] at h8
            have := g1 r e
            omega
          rw [cat_lo e, a_J r e hj]
        · rw [a_hi r e, show r = R + (r - R) by omega, cat_hi, show R + (r - R) - R = r - R by omega]
    · exact (g5 k (by omega) v hv).pad (fun r hr ha => (lvlo k (by omega) r hr).mpr ha) (fun r i hr => by rw [a_lo r k hr ek])
  · by_cases e : r < R
    · rw [s_lo r e] at hs
      by_cases ek : k = m
      · subst ek
        rw [a_lo r k e (by omega)]
        by_cases hj : J r
        · rw [a_J r e hj]
        · rw [a_N r e hj]
          by_cases h8 : en r = k
          · exact (Classical.byContradiction fun q => hj ⟨h8, q⟩ : ∀ i, Fk D T k (x1 r k) i = 0) i
          · have := g1 r e
            exact Fk_z (fun i => g2 r k i e (Or.inr (by omega))) i
      · rw [a_lo r k e (by omega), a_lo r (k + 1) e (by omega)]
        exact g6 k (by omega) hlk r e hs i
    · rw [s_hi r e] at hs
      omega
  · have ek : k ≠ m := fun q => by rw [q, hl] at hlk; exact absurd hlk (by decide)
    by_cases e : r < R
    · rw [a_lo r k e (by omega), a_lo r (k + 1) e (by omega)]
      refine g7 k (by omega) hlk r e ?_ i
      by_cases hj : J r
      · have := hj.1; omega
      · rw [e_N r e hj] at hs; exact hs
    · rw [a_z r k e (by omega), a_z r (k + 1) e (by omega)]
      exact Fk_z (fun _ => rfl) i
  · rw [List.nodup_append]
    refine ⟨List.nodup_range', hn.filter _, fun a ha c hc => ?_⟩
    rw [List.mem_range'_1] at ha
    have := ((hL c).mp (List.mem_filter.mp hc).1).1
    omega
  · rw [List.mem_append, List.mem_range'_1, List.mem_filter, hL, decide_eq_true_eq]
    constructor
    · rintro (q | ⟨q, hj⟩)
      · exact ⟨by omega, e_hi r (by omega)⟩
      · exact ⟨by omega, e_J r q.1 hj⟩
    · rintro ⟨q1, q2⟩
      by_cases e : r < R
      · right
        have hj : J r := Classical.byContradiction fun hj => by
          rw [e_N r e hj] at q2
          have := g1 r e
          omega
        exact ⟨⟨e, hj.1⟩, hj⟩
      · left; omega
  · rw [List.pairwise_append]
    refine ⟨?_, ?_, fun a ha c hc => ?_⟩
    · refine List.Pairwise.imp_of_mem (R := fun _ _ => True) (fun {a c} ha hc _ => ?_) (List.pairwise_of_forall (fun _ _ => trivial))
      rw [List.mem_range'_1] at ha hc
      rw [s_hi a (by omega), s_hi c (by omega)]
      exact Or.inl rfl
    · refine List.Pairwise.imp_of_mem (fun {a c} ha hc q => ?_) (hp.filter _)
      rw [s_lo a ((hL a).mp (List.mem_filter.mp ha).1).1, s_lo c ((hL c).mp (List.mem_filter.mp hc).1).1]
      exact q
    · rw [List.mem_range'_1] at ha
      have hc1 := (hL c).mp (List.mem_filter.mp hc).1
      have := g1 c hc1.1
      rw [s_hi a (by omega), s_lo c hc1.1]
      exact Or.inr (Or.inr ⟨by omega, hl⟩)

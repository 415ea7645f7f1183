theorem Bar.stepL {K : Type} [Lean.Grind.CommRing K] (inv : ∀ x : K, x ≠ 0 → ∃ y, x * y = 1) {m D : Nat} {s : Nat → Nat} {Lf : Nat → Bool} {T : Nat → Nat → Nat → K} {R : Nat} {st en : Nat → Nat} {x : Nat → Nat → Nat → K} (h : Bar (m + 1) D s Lf T R st en x) {L : List Nat} (hn : L.Nodup) (hL : ∀ r, r ∈ L ↔ r < R ∧ en r = m) (hp : L.Pairwise (fun r q => Ad Lf (st q) (st r))) (hl : Lf m = true) (hT : ∀ i j, s m ≤ i → T m i j = 0) : ∃ (R' : Nat) (st' en' : Nat → Nat) (x' : Nat → Nat → Nat → K) (L' : List Nat), Bar (m + 1 + 1) D s Lf T R' st' en' x' ∧ L'.Nodup ∧ (∀ r, r ∈ L' ↔ r < R' ∧ en' r = m + 1) ∧ L'.Pairwise (fun r q => Ad Lf (st' q) (st' r)) := by
  classical
  let U : (Nat → K) → Prop := fun v => ∃ w : Nat → K, (∀ i, s (m + 1) ≤ i → w i = 0) ∧ ∀ i, v i = Fk D T m w i
  have hU : ∀ (u v : Nat → K) (t : K), U u → U v → U (fun i => u i + t * v i) := by
    rintro u v t ⟨a, a1, a2⟩ ⟨b, b1, b2⟩
    refine ⟨fun i => a i + t * b i, fun i hi => by dsimp only; rw [a1 i hi, b1 i hi]; grind, fun i => ?_⟩
    dsimp only
    rw [Fk_lin a b, ← a2 i, ← b2 i]
  obtain ⟨x1, h1, -, hg⟩ := Bar.elim U L x h hn (fun q hq => (hL q).mp hq) hp
  obtain ⟨g1, g2, g3, g4, g5, g6, g7⟩ := id h1
  let J : Nat → Prop := fun r => en r = m ∧ U (x1 r m)
  have hch : ∃ y : Nat → Nat → K, ∀ r, J r → (∀ i, s (m + 1) ≤ i → y r i = 0) ∧ ∀ i, x1 r m i = Fk D T m (y r) i := by
    refine ⟨fun r => if q : J r then Classical.choose q.2 else fun _ => 0, fun r hr => ?_⟩
    simp only [dif_pos hr]
    exact Classical.choose_spec hr.2
  obtain ⟨y, hy⟩ := hch
  obtain ⟨b, z, z1, z2, z3⟩ := subb inv (d := s (m + 1)) (U := fun w => (∀ i, s (m + 1) ≤ i → w i = 0) ∧ ∀ i, Fk D T m w i = 0) (fun u v t a b => ⟨fun i hi => by dsimp only; rw [a.1 i hi, b.1 i hi]; grind, fun i => by rw [Fk_lin u v, a.2 i, b.2 i]; grind⟩) (fun u hu => hu.1)
  let st' : Nat → Nat := fun r => if r < R then st r else m + 1
  let en' : Nat → Nat := fun r => if r < R then (if J r then m + 1 else en r) else m + 1
  let x' : Nat → Nat → Nat → K := fun r k => if r < R then (if k = m + 1 then (if J r then y r else fun _ => 0) else x1 r k) else (if k = m + 1 then z (r - R) else fun _ => 0)
  have a_lo : ∀ r k, r < R → k ≠ m + 1 → x' r k = x1 r k := fun r k hr hk => by
    show (if r < R then _ else _) = _
    rw [if_pos hr, if_neg hk]
  have a_J : ∀ r, r < R → J r → x' r (m + 1) = y r := fun r hr hj => by
    show (if r < R then _ else _) = _
    rw [if_pos hr, if_pos rfl, if_pos hj]
  have a_N : ∀ r, r < R → ¬ J r → x' r (m + 1) = fun _ => 0 := fun r hr hj => by
    show (if r < R then _ else _) = _
    rw [if_pos hr, if_pos rfl, if_neg hj]
  have a_hi : ∀ r, ¬ r < R → x' r (m + 1) = z (r - R) := fun r hr => by
    show (if r < R then _ else _) = _
    rw [if_neg hr, if_pos rfl]
  have a_z : ∀ r k, ¬ r < R → k ≠ m + 1 → x' r k = fun _ => 0 := fun r k hr hk => by
    show (if r < R then _ else _) = _
    rw [if_neg hr, if_neg hk]
  have s_lo : ∀ r, r < R → st' r = st r := fun r hr => if_pos hr
  have s_hi : ∀ r, ¬ r < R → st' r = m + 1 := fun r hr => if_neg hr
  have e_J : ∀ r, r < R → J r → en' r = m + 1 := fun r hr hj => by
    show (if r < R then _ else _) = _
    rw [if_pos hr, if_pos hj]
  have e_N : ∀ r, r < R → ¬ J r → en' r = en r := fun r hr hj => by
    show (if r < R then _ else _) = _
    rw [if_pos hr, if_neg hj]
  have e_hi : ∀ r, ¬ r < R → en' r = m + 1 := fun r hr => if_neg hr
  have lvlo : ∀ k, k ≤ m → ∀ r, r < R → (lv st' en' k r ↔ lv st en k r) := fun k hk r hr => by
    unfold lv
    rw [s_lo r hr]
    by_cases hj : J r
    · rw [e_J r hr hj]
      have := hj.1
      omega
    · rw [e_N r hr hj]
  have lvJ : ∀ r, r < R → (lv st' en' (m + 1) r ↔ J r) := fun r hr => by
    have := g1 r hr
    unfold lv
    rw [s_lo r hr]
    by_cases hj : J r
    · rw [e_J r hr hj]
      exact ⟨fun _ => hj, fun _ => ⟨by omega, by omega⟩⟩
    · rw [e_N r hr hj]
      exact ⟨fun q => by omega, fun q => absurd q hj⟩
  have hFz : ∀ q, q < b → ∀ i, Fk D T m (z q) i = 0 := fun q hq => (z1 q hq).2
  have hFx : ∀ r, r < R → ∀ i, Fk D T m (x' r (m + 1)) i = if J r then x1 r m i else 0 := fun r hr i => by
    by_cases hj : J r
    · rw [a_J r hr hj, if_pos hj, (hy r hj).2 i]
    · rw [a_N r hr hj, if_neg hj]
      exact Fk_z (fun _ => rfl) i
  refine ⟨R + b, st', en', x', L.filter (fun r => decide (J r)) ++ List.range' R b, ⟨fun r hr => ?_, fun r k i hr hk => ?_, fun r k i hr hi => ?_, fun k hk => ?_, fun k hk v hv => ?_, fun k hk hlk r hr hs i => ?_, fun k hk hlk r hr hs i => ?_⟩, ?_, fun r => ?_, ?_⟩
  · by_cases e : r < R
    · have := g1 r e
      rw [s_lo r e]
      by_cases hj : J r
      · rw [e_J r e hj]; omega
      · rw [e_N r e hj]; omega
    · rw [s_hi r e, e_hi r e]; omega
  · by_cases e : r < R
    · rw [s_lo r e] at hk
      have := g1 r e
      by_cases hj : J r
      · rw [e_J r e hj] at hk
        have h9 := hj.1
        by_cases ek : k = m + 1
        · omega
        · rw [a_lo r k e ek]; exact g2 r k i e (by omega)
      · rw [e_N r e hj] at hk
        by_cases ek : k = m + 1
        · rw [ek, a_N r e hj]
        · rw [a_lo r k e ek]; exact g2 r k i e hk
    · rw [s_hi r e, e_hi r e] at hk
      rw [a_z r k e (by omega)]
  · by_cases ek : k = m + 1
    · subst ek
      by_cases e : r < R
      · by_cases hj : J r
        · rw [a_J r e hj]
          exact (hy r hj).1 i hi
        · rw [a_N r e hj]
      · rw [a_hi r e]; exact (z1 _ (by omega)).1 i hi
    · by_cases e : r < R
      · rw [a_lo r k e ek]; exact g3 r k i e hi
      · rw [a_z r k e ek]
  · by_cases ek : k = m + 1
    · subst ek
      intro c c1 c2
      replace c2 : ∀ i, su (R + b) (fun r => c r * x' r (m + 1) i) = 0 := c2
      have hlo : ∀ r, r < R → c r = 0 := by
        have := (g4 m (by omega)).cgA (B := fun r => lv st en m r) (fun r _ q => q)
        intro r hr
        have := this (fun r => if r < R then c r else 0) (fun q hq => by
          by_cases e : q < R
          · rw [if_pos e]
            refine c1 q (fun z => hq ?_)
            have hj := (lvJ q e).mp z
            have := g1 q e
            have h9 := hj.1
            exact ⟨by omega, by omega⟩
          · rw [if_neg e]) (fun i => by
          have hF : Fk D T m (fun i => su (R + b) (fun r => c r * x' r (m + 1) i)) i = 0 := Fk_z (fun i => c2 i) i
          rw [Fk_su, su_split, su_z b (fun q hq => by rw [a_hi (R + q) (by omega), show R + q - R = q by omega, hFz q hq]; grind)] at hF
          rw [su_cg R (g := fun r => c r * Fk D T m (x' r (m + 1)) i) (fun r hr => by
            rw [if_pos hr, hFx r hr]
            by_cases hj : J r
            · rw [if_pos hj]
            · rw [if_neg hj, c1 r (fun q => hj ((lvJ r hr).mp q))]; grind)]
          grind) r hr
        rwa [if_pos hr] at this
      have hhi := z2 (fun q => c (R + q)) (fun r q => absurd trivial q) (fun i => by
        have := c2 i
        rw [su_split, su_z R (fun r hr => by rw [hlo r hr]; grind), su_cg b (g := fun q => c (R + q) * z q i) (fun q hq => by rw [a_hi (R + q) (by omega), show R + q - R = q by omega])] at this
        grind)
      intro r hr
      by_cases e : r < R
      · exact hlo r e
      · have := hhi (r - R) (by omega)
        rwa [show R + (r - R) = r by omega] at this
    · exact (g4 k (by omega)).pad (fun r h8 h9 ha => by have := ha.1; rw [s_hi r (by omega)] at this; omega) (fun r hr ha => (lvlo k (by omega) r hr).mp ha) (fun r i hr => by rw [a_lo r k hr ek])
  · by_cases ek : k = m + 1
    · subst ek
      obtain ⟨a, a1, a2⟩ := g5 m (by omega) (Fk D T m v) (fun i hi => su_z D (fun j _ => by rw [hT i j hi]; grind))
      have hsl : ∀ i, su R (fun r => a r * x1 r m i) = sl L (fun r => a r * x1 r m i) := fun i => su_sl L _ hn (fun q hq => ((hL q).mp hq).1) (fun q hq hq2 => by
        have : ¬ lv st en m q := fun w => hq2 ((hL q).mpr ⟨hq, by have := g1 q hq; have := w.2; omega⟩)
        rw [a1 q this]; grind)
      have haJ : ∀ r, r < R → ¬ J r → a r = 0 := fun r hr hj => by
        by_cases e : en r = m
        · exact Good.only inv hU a L hg ⟨v, hv, fun i => by dsimp only; rw [← hsl i, ← a2 i]⟩ r ((hL r).mpr ⟨hr, e⟩) (fun q => hj ⟨e, q⟩)
        · exact a1 r (fun w => by have := g1 r hr; have := w.2; omega)
      obtain ⟨c, -, c2⟩ := z3 (fun i => v i - su R (fun r => a r * x' r (m + 1) i)) ⟨fun i hi => by
        rw [hv i hi, su_z R (fun r hr => ?_)]
        · grind
        · by_cases hj : J r
          · rw [a_J r hr hj, (hy r hj).1 i hi]; grind
          · rw [haJ r hr hj]; grind, fun i => by
        have e9 : (fun i => v i - su R (fun r => a r * x' r (m + 1) i)) = (fun i => v i + (-1) * su R (fun r => a r * x' r (m + 1) i)) := funext fun i => by grind
        rw [e9, Fk_lin v (fun i => su R (fun r => a r * x' r (m + 1) i)), Fk_su, a2 i, su_cg R (f := fun r => a r * Fk D T m (x' r (m + 1)) i) (g := fun r => a r * x1 r m i) (fun r hr => by
          rw [hFx r hr]
          by_cases hj : J r
          · rw [if_pos hj]
          · rw [if_neg hj, haJ r hr hj]; grind)]
        grind⟩
      refine ⟨fun r => if r < R then a r else c (r - R), fun r hr => ?_, fun i => ?_⟩
      · dsimp only
        by_cases e : r < R
        · rw [if_pos e]; exact haJ r e (fun q => hr ((lvJ r e).mpr q))
        · exact absurd (show lv st' en' (m + 1) r from ⟨by rw [s_hi r e]; omega, by rw [e_hi r e]; omega⟩) hr
      · have := c2 i
        show v i = su (R + b) (fun r => (if r < R then a r else c (r - R)) * x' r (m + 1) i)
        rw [su_split, su_cg R (g := fun r => a r * x' r (m + 1) i) (fun r hr => by rw [if_pos hr]), su_cg b (g := fun q => c q * z q i) (fun q hq => by rw [if_neg (by omega), a_hi (R + q) (by omega), show R + q - R = q by omega])]
        grind
    · exact (g5 k (by omega) v hv).pad (fun r hr ha => (lvlo k (by omega) r hr).mpr ha) (fun r i hr => by rw [a_lo r k hr ek])
  · have ek : k ≠ m := fun q => by rw [q, hl] at hlk; exact absurd hlk (by decide)
    by_cases e : r < R
    · rw [s_lo r e] at hs
      rw [a_lo r k e (by omega), a_lo r (k + 1) e (by omega)]
      exact g6 k (by omega) hlk r e hs i
    · rw [s_hi r e] at hs
      omega
  · by_cases e : r < R
    · by_cases ek : k = m
      · subst ek
        rw [a_lo r k e (by omega), hFx r e]
        have hj : J r := Classical.byContradiction fun hj => by
          rw [e_N r e hj] at hs
          have := g1 r e
          omega
        rw [if_pos hj]
      · rw [a_lo r k e (by omega), a_lo r (k + 1) e (by omega)]
        refine g7 k (by omega) hlk r e ?_ i
        by_cases hj : J r
        · have := hj.1; omega
        · rw [e_N r e hj] at hs; exact hs
    · rw [a_z r k e (by omega)]
      by_cases ek : k = m
      · subst ek
        rw [a_hi r e]
        exact hFz _ (by omega) i
      · rw [a_z r (k + 1) e (by omega)]
        exact Fk_z (fun _ => rfl) i
  · rw [List.nodup_append]
    refine ⟨hn.filter _, List.nodup_range', fun c hc a ha => ?_⟩
    rw [List.mem_range'_1] at ha
    have := ((hL c).mp (List.mem_filter.mp hc).1).1
    omega
  · rw [List.mem_append, List.mem_range'_1, List.mem_filter, hL, decide_eq_true_eq]
    constructor
    · rintro (⟨q, hj⟩ | q)
      · exact ⟨by omega, e_J r q.1 hj⟩
      · exact ⟨by omega, e_hi r (by omega)⟩
    · rintro ⟨q1, q2⟩
      by_cases e : r < R
      · left
        have hj : J r := Classical.byContradiction fun hj => by
          rw [e_N r e hj] at q2
          have := g1 r e
          omega
        exact ⟨⟨e, hj.1⟩, hj⟩
      · right; omega
  · rw [List.pairwise_append]
    refine ⟨?_, ?_, fun c hc a ha => ?_⟩
    · refine List.Pairwise.imp_of_mem (fun {a c} ha hc q => ?_) (hp.filter _)
      rw [s_lo a ((hL a).mp (List.mem_filter.mp ha).1).1, s_lo c ((hL c).mp (List.mem_filter.mp hc).1).1]
      exact q
    · refine List.Pairwise.imp_of_mem (R := fun _ _ => True) (fun {a c} ha hc _ => ?_) (List.pairwise_of_forall (fun _ _ => trivial))
      rw [List.mem_range'_1] at ha hc
      rw [s_hi a (by omega), s_hi c (by omega)]
      exact Or.inl rfl
    · rw [List.mem_range'_1] at ha
      have hc1 := (hL c).mp (List.mem_filter.mp hc).1
      have := g1 c hc1.1
      rw [s_hi a (by omega), s_lo c hc1.1]
      exact Or.inr (Or.inl ⟨by omega, hl⟩)
/-- every laying is parted into bars -/
theorem Bar.all {K : Type} [Lean.Grind.CommRing K] (inv : ∀ x : K, x ≠ 0 → ∃ y, x * y = 1) {D : Nat} {s : Nat → Nat} {Lf : Nat → Bool} {T : Nat → Nat → Nat → K} (hT : ∀ k i j, (if Lf k = true then s k else s (k + 1)) ≤ i → T k i j = 0) : ∀ m, ∃ (R : Nat) (st en : Nat → Nat) (x : Nat → Nat → Nat → K) (L : List Nat), Bar (m + 1) D s Lf T R st en x ∧ L.Nodup ∧ (∀ r, r ∈ L ↔ r < R ∧ en r = m) ∧ L.Pairwise (fun r q => Ad Lf (st q) (st r)) := by
  intro m
  induction m with
  | zero =>
    obtain ⟨b, z, z1, z2, z3⟩ := ext (K := K) inv (R := 0) (d := s 0) (A := fun _ => True) (y := fun _ _ => 0) (fun c _ _ r hr => absurd hr (Nat.not_lt_zero _))
    rw [Nat.zero_add] at z2 z3
    have hc : ∀ r, cat 0 (fun _ _ => (0 : K)) z r = z r := fun r => by
      have := cat_hi (R := 0) (r := r) (y := fun _ _ => (0 : K)) (z := z)
      rwa [Nat.zero_add] at this
    refine ⟨b, fun _ => 0, fun _ => 0, fun r k => if k = 0 then z r else fun _ => 0, List.range' 0 b, ⟨fun r _ => ⟨Nat.le_refl _, Nat.succ_pos _⟩, fun r k i hr hk => ?_, fun r k i hr hi => ?_, fun k hk => ?_, fun k hk v hv => ?_, fun k hk => by omega, fun k hk => by omega⟩, List.nodup_range', fun r => ?_, ?_⟩
    · replace hk : k < 0 ∨ 0 < k := hk
      show (if k = 0 then z r else fun _ => 0) i = 0
      rw [if_neg (by omega)]
    · show (if k = 0 then z r else fun _ => 0) i = 0
      by_cases e : k = 0
      · subst e; rw [if_pos rfl]; exact z1 r hr i hi
      · rw [if_neg e]
    · have e : k = 0 := by omega
      subst e
      exact (z2.cgx (y := z) (fun r i _ _ => by rw [hc r])).cgA (fun r _ _ q => absurd q (Nat.not_lt_zero _))
    · have e : k = 0 := by omega
      subst e
      exact ((z3 v hv).cgA (B := lv (fun _ => 0) (fun _ => 0) 0) (fun r _ _ => ⟨Nat.le_refl _, Nat.le_refl _⟩)).cgx (y := z) (fun r i _ _ => by rw [hc r])
    · show r ∈ List.range' 0 b ↔ r < b ∧ 0 = 0
      rw [List.mem_range'_1]; omega
    · exact List.pairwise_of_forall (fun _ _ => Or.inl rfl)
  | succ m ih =>
    obtain ⟨R, st, en, x, L, h1, h2, h3, h4⟩ := ih
    cases e : Lf m with
    | false => exact h1.stepR inv h2 h3 h4 e (fun i j hi => hT m i j (by rw [e]; simpa using hi))
    | true => exact h1.stepL inv h2 h3 h4 e (fun i j hi => hT m i j (by rw [e]; simpa using hi))

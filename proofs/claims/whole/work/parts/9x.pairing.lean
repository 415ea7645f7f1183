/-! pairings -/
theorem pig : ∀ (m n : Nat) (f : Nat → Nat), (∀ i, i < n → f i < m) → (∀ i j, i < n → j < n → f i = f j → i = j) → n ≤ m
  | 0, n, f, h, _ => by
    rcases n with _ | n
    · exact Nat.le_refl _
    · exact absurd (h 0 (by omega)) (Nat.not_lt_zero _)
  | m + 1, n, f, h, hi => by
    by_cases e : ∃ i0, i0 < n ∧ f i0 = m
    · obtain ⟨i0, h0, e0⟩ := e
      have := pig m (n - 1) (fun i => if i = i0 then f (n - 1) else f i) (fun i hi' => by
        by_cases q : i = i0
        · rw [if_pos q]
          have a1 := h (n - 1) (by omega)
          have a2 : f (n - 1) ≠ m := fun z => by
            have := hi (n - 1) i0 (by omega) h0 (z.trans e0.symm)
            omega
          omega
        · rw [if_neg q]
          have a1 := h i (by omega)
          have a2 : f i ≠ m := fun z => q (hi i i0 (by omega) h0 (z.trans e0.symm))
          omega) (fun i j hi' hj' q => by
        by_cases q1 : i = i0
        · by_cases q2 : j = i0
          · omega
          · rw [if_pos q1, if_neg q2] at q
            have := hi _ _ (by omega) (by omega) q
            omega
        · by_cases q2 : j = i0
          · rw [if_neg q1, if_pos q2] at q
            have := hi _ _ (by omega) (by omega) q
            omega
          · rw [if_neg q1, if_neg q2] at q
            exact hi _ _ (by omega) (by omega) q)
      omega
    · have := pig m n f (fun i hi' => by
        have a1 := h i hi'
        have a2 : f i ≠ m := fun q => e ⟨i, hi', q⟩
        omega) hi
      omega
/-- the dear ones can be paired -/
def Pm (adj : Nat → Nat → Prop) (dear : Nat → Prop) (m n : Nat) : Prop := ∃ φ : Nat → Nat, (∀ i, i < m → dear i → φ i < n ∧ adj i (φ i)) ∧ ∀ i j, i < m → j < m → dear i → dear j → φ i = φ j → i = j
/-- the pairing so far: those of S are paired -/
def Mt (adj : Nat → Nat → Prop) (m n : Nat) (S : Nat → Prop) (po pt : Nat → Int) : Prop :=
  (∀ i, i < m → S i → ∃ o : Nat, o < n ∧ po i = (o : Int) ∧ adj i o ∧ pt o = (i : Int)) ∧ (∀ i, i < m → ¬ S i → po i = -1) ∧ ∀ o, o < n → pt o = -1 ∨ ∃ i : Nat, i < m ∧ S i ∧ pt o = (i : Int) ∧ po i = (o : Int)
/-- the same, with one other to be given anew -/
def MX (adj : Nat → Nat → Prop) (m n : Nat) (S : Nat → Prop) (po pt : Nat → Int) (o0 : Nat) : Prop :=
  (∀ i, i < m → S i → ∃ o : Nat, o < n ∧ po i = (o : Int) ∧ adj i o ∧ pt o = (i : Int) ∧ o ≠ o0) ∧ (∀ i, i < m → ¬ S i → po i = -1) ∧ ∀ o, o < n → o ≠ o0 → pt o = -1 ∨ ∃ i : Nat, i < m ∧ S i ∧ pt o = (i : Int) ∧ po i = (o : Int)
theorem Mt.start {adj : Nat → Nat → Prop} {m n : Nat} {S : Nat → Prop} {po pt : Nat → Int} (h : Mt adj m n S po pt) {o0 : Nat} (h0 : pt o0 = -1) : MX adj m n S po pt o0 := by
  refine ⟨fun i hi hS => ?_, h.2.1, fun o ho _ => h.2.2 o ho⟩
  obtain ⟨o, a1, a2, a3, a4⟩ := h.1 i hi hS
  exact ⟨o, a1, a2, a3, a4, fun e => by rw [e, h0] at a4; omega⟩
theorem MX.step {adj : Nat → Nat → Prop} {m n : Nat} {S : Nat → Prop} {po pt : Nat → Int} {o0 one o1 : Nat} (h : MX adj m n S po pt o0) (h0 : o0 < n) (h1 : one < m) (hS : S one) (ha : adj one o0) (he : po one = (o1 : Int)) : MX adj m n S (up po one (o0 : Int)) (up pt o0 (one : Int)) o1 ∧ o1 < n := by
  obtain ⟨o, a1, a2, a3, a4, a5⟩ := h.1 one h1 hS
  have eo : o = o1 := by omega
  subst eo
  refine ⟨⟨fun i hi hSi => ?_, fun i hi hSi => ?_, fun o' ho' hne => ?_⟩, a1⟩
  · by_cases e : i = one
    · subst e
      exact ⟨o0, h0, up_s _ _ _, ha, up_s _ _ _, fun q => a5 q.symm⟩
    · obtain ⟨o', b1, b2, b3, b4, b5⟩ := h.1 i hi hSi
      refine ⟨o', b1, (up_n _ _ e).trans b2, b3, (up_n _ _ b5).trans b4, fun q => e ?_⟩
      rw [q, a4] at b4
      omega
  · by_cases e : i = one
    · exact absurd (e ▸ hS) hSi
    · rw [up_n _ _ e]; exact h.2.1 i hi hSi
  · by_cases e : o' = o0
    · subst e
      exact Or.inr ⟨one, h1, hS, up_s _ _ _, up_s _ _ _⟩
    · rcases h.2.2 o' ho' e with q | ⟨i, b1, b2, b3, b4⟩
      · exact Or.inl ((up_n _ _ e).trans q)
      · refine Or.inr ⟨i, b1, b2, (up_n _ _ e).trans b3, (up_n _ _ (fun q => hne ?_)).trans b4⟩
        rw [q, a2] at b4
        omega
theorem MX.fin {adj : Nat → Nat → Prop} {m n : Nat} {S : Nat → Prop} {po pt : Nat → Int} {o0 one : Nat} (h : MX adj m n S po pt o0) (h0 : o0 < n) (h1 : one < m) (hS : ¬ S one) (ha : adj one o0) : Mt adj m n (fun i => S i ∨ i = one) (up po one (o0 : Int)) (up pt o0 (one : Int)) := by
  refine ⟨fun i hi hSi => ?_, fun i hi hSi => ?_, fun o' ho' => ?_⟩
  · by_cases e : i = one
    · subst e
      exact ⟨o0, h0, up_s _ _ _, ha, up_s _ _ _⟩
    · obtain ⟨o', b1, b2, b3, b4, b5⟩ := h.1 i hi (hSi.resolve_right e)
      exact ⟨o', b1, (up_n _ _ e).trans b2, b3, (up_n _ _ b5).trans b4⟩
  · rw [up_n _ _ (fun e => hSi (Or.inr e))]
    exact h.2.1 i hi (fun q => hSi (Or.inl q))
  · by_cases e : o' = o0
    · subst e
      exact Or.inr ⟨one, h1, Or.inr rfl, up_s _ _ _, up_s _ _ _⟩
    · rcases h.2.2 o' ho' e with q | ⟨i, b1, b2, b3, b4⟩
      · exact Or.inl ((up_n _ _ e).trans q)
      · exact Or.inr ⟨i, b1, Or.inl b2, (up_n _ _ e).trans b3, (up_n _ _ (fun (q : i = one) => hS (q ▸ b2))).trans b4⟩
/-- the search: W are those that wait, rf says from whom an other was reached -/
def Js (adj : Nat → Nat → Prop) (m n : Nat) (S : Nat → Prop) (first : Nat) (po pt : Nat → Int) (W : Nat → Nat) (kn k oth : Nat) (wt rf : Nat → Int) : Prop :=
  1 ≤ kn ∧ W 0 = first ∧ (∀ j, j < kn → wt j = (W j : Int) ∧ W j < m) ∧ (∀ j j', j < kn → j' < kn → W j = W j' → j = j') ∧
  (∀ j, 1 ≤ j → j < kn → S (W j) ∧ ∃ o j' : Nat, o < n ∧ po (W j) = (o : Int) ∧ j' < j ∧ rf o = (W j' : Int) ∧ adj (W j') o) ∧
  (∀ o, o < n → rf o = -1 ∨ (∃ i : Nat, i < m ∧ rf o = (i : Int)) ∧ ∃ j', 1 ≤ j' ∧ j' < kn ∧ pt o = (W j' : Int)) ∧
  ∀ j o, o < n → (j < k ∨ (j = k ∧ o < oth)) → j < kn → adj (W j) o → rf o ≠ -1
theorem Js.init {adj : Nat → Nat → Prop} {m n : Nat} {S : Nat → Prop} {first : Nat} {po pt wt rf : Nat → Int} (hf : first < m) (hw : wt 0 = (first : Int)) (hr : ∀ o, o < n → rf o = -1) : Js adj m n S first po pt (fun _ => first) 1 0 0 wt rf := by
  refine ⟨Nat.le_refl _, rfl, fun j hj => ⟨by rw [show j = 0 by omega]; exact hw, hf⟩, fun j j' h1 h2 _ => by omega, fun j h1 h2 => by omega, fun o ho => Or.inl (hr o ho), fun j o _ h2 => by omega⟩
theorem Js.skip {adj : Nat → Nat → Prop} {m n : Nat} {S : Nat → Prop} {first : Nat} {po pt wt rf : Nat → Int} {W : Nat → Nat} {kn k oth : Nat} (h : Js adj m n S first po pt W kn k oth wt rf) (hs : adj (W k) oth → rf oth ≠ -1) : Js adj m n S first po pt W kn k (oth + 1) wt rf := by
  obtain ⟨h1, h2, h3, h4, h5, h6, h7⟩ := h
  refine ⟨h1, h2, h3, h4, h5, h6, fun j o ho hj hk ha => ?_⟩
  by_cases e : j = k ∧ o = oth
  · rw [e.2]; rw [e.1, e.2] at ha; exact hs ha
  · exact h7 j o ho (by omega) hk ha
theorem Js.next {adj : Nat → Nat → Prop} {m n : Nat} {S : Nat → Prop} {first : Nat} {po pt wt rf : Nat → Int} {W : Nat → Nat} {kn k : Nat} (h : Js adj m n S first po pt W kn k n wt rf) : Js adj m n S first po pt W kn (k + 1) 0 wt rf := by
  obtain ⟨h1, h2, h3, h4, h5, h6, h7⟩ := h
  exact ⟨h1, h2, h3, h4, h5, h6, fun j o ho hj hk ha => h7 j o ho (by omega) hk ha⟩
theorem Js.more {adj : Nat → Nat → Prop} {m n : Nat} {S : Nat → Prop} {first : Nat} {po pt wt rf : Nat → Int} {W : Nat → Nat} {kn k oth : Nat} (h : Js adj m n S first po pt W kn k oth wt rf) (hM : Mt adj m n S po pt) (hS : ¬ S first) (ho : oth < n) (hr : rf oth = -1) (hk : k < kn) (ha : adj (W k) oth) (hp : pt oth ≠ -1) : ∃ i, i < m ∧ pt oth = (i : Int) ∧ kn + 1 ≤ m ∧ Js adj m n S first po pt (up W kn i) (kn + 1) k (oth + 1) (up wt kn (i : Int)) (up rf oth (W k : Int)) := by
  obtain ⟨h1, h2, h3, h4, h5, h6, h7⟩ := h
  rcases hM.2.2 oth ho with q | ⟨i, b1, b2, b3, b4⟩
  · exact absurd q hp
  have hnew : ∀ j, j < kn → W j ≠ i := fun j hj e => by
    by_cases j0 : j = 0
    · rw [j0, h2] at e
      exact hS (e ▸ b2)
    · obtain ⟨-, o, j', c1, c2, c3, c4, -⟩ := h5 j (by omega) hj
      rw [e, b4] at c2
      have : oth = o := by omega
      rw [← this, hr] at c4
      omega
  have hinj : ∀ j j', j < kn + 1 → j' < kn + 1 → up W kn i j = up W kn i j' → j = j' := fun j j' a1 a2 e => by
    by_cases q1 : j = kn
    · by_cases q2 : j' = kn
      · omega
      · rw [q1, up_s, up_n _ _ q2] at e
        exact absurd e.symm (hnew j' (by omega))
    · by_cases q2 : j' = kn
      · rw [q2, up_s, up_n _ _ q1] at e
        exact absurd e (hnew j (by omega))
      · rw [up_n _ _ q1, up_n _ _ q2] at e
        exact h4 j j' (by omega) (by omega) e
  have hlt : ∀ j, j < kn + 1 → up W kn i j < m := fun j hj => by
    by_cases q1 : j = kn
    · rw [q1, up_s]; exact b1
    · rw [up_n _ _ q1]; exact (h3 j (by omega)).2
  refine ⟨i, b1, b3, pig m (kn + 1) _ hlt hinj, by omega, ?_, fun j hj => ?_, hinj, fun j j1 hj => ?_, fun o ho' => ?_, fun j o ho' hj hk' ha' => ?_⟩
  · rw [up_n _ _ (by omega)]; exact h2
  · refine ⟨?_, hlt j hj⟩
    by_cases q1 : j = kn
    · rw [q1, up_s, up_s]
    · rw [up_n _ _ q1, up_n _ _ q1]; exact (h3 j (by omega)).1
  · by_cases q1 : j = kn
    · rw [q1, up_s]
      exact ⟨b2, oth, k, ho, b4, by omega, by rw [up_s, up_n _ _ (by omega)], by rw [up_n _ _ (by omega)]; exact ha⟩
    · rw [up_n _ _ q1]
      obtain ⟨c0, o, j', c1, c2, c3, c4, c5⟩ := h5 j j1 (by omega)
      refine ⟨c0, o, j', c1, c2, c3, ?_, ?_⟩
      · rw [up_n _ _ (fun q => by rw [q, hr] at c4; omega), up_n _ _ (by omega)]; exact c4
      · rw [up_n _ _ (by omega)]; exact c5
  · by_cases e : o = oth
    · rw [e]
      exact Or.inr ⟨⟨W k, (h3 k hk).2, up_s _ _ _⟩, kn, h1, by omega, by rw [up_s]; exact b3⟩
    · rcases h6 o ho' with q | ⟨⟨i9, d1, d2⟩, j', c1, c2, c3⟩
      · exact Or.inl ((up_n _ _ e).trans q)
      · exact Or.inr ⟨⟨i9, d1, (up_n _ _ e).trans d2⟩, j', c1, by omega, by rw [up_n _ _ (by omega)]; exact c3⟩
  · by_cases e : o = oth
    · rw [e, up_s]; omega
    · rw [up_n _ _ e]
      rw [up_n _ _ (by omega)] at ha'
      exact h7 j o ho' (by omega) (by omega) ha'
/-- where the search ends without a free other, there is no pairing -/
theorem Js.none {adj : Nat → Nat → Prop} {m n : Nat} {S dear : Nat → Prop} {first : Nat} {po pt wt rf : Nat → Int} {W : Nat → Nat} {kn : Nat} (h : Js adj m n S first po pt W kn kn 0 wt rf) (hM : Mt adj m n S po pt) (hd : dear first) (hS : ∀ i, S i → dear i) : ¬ Pm adj dear m n := by
  obtain ⟨h1, h2, h3, h4, h5, h6, h7⟩ := h
  rintro ⟨φ, p1, p2⟩
  have hdear : ∀ j, j < kn → dear (W j) := fun j hj => by
    by_cases j0 : j = 0
    · rw [j0, h2]; exact hd
    · exact hS _ (h5 j (by omega) hj).1
  have hex : ∀ j, j < kn → ∃ q, q < kn - 1 ∧ pt (φ (W j)) = (W (q + 1) : Int) := fun j hj => by
    obtain ⟨a1, a2⟩ := p1 (W j) (h3 j hj).2 (hdear j hj)
    rcases h6 _ a1 with q | ⟨-, j', c1, c2, c3⟩
    · exact absurd q (h7 j _ a1 (Or.inl hj) hj a2)
    · exact ⟨j' - 1, by omega, by rw [show j' - 1 + 1 = j' by omega]; exact c3⟩
  have hch : ∃ F : Nat → Nat, ∀ j, j < kn → F j < kn - 1 ∧ pt (φ (W j)) = (W (F j + 1) : Int) := ⟨fun j => if hj : j < kn then Classical.choose (hex j hj) else 0, fun j hj => by dsimp only; rw [dif_pos hj]; exact Classical.choose_spec (hex j hj)⟩
  obtain ⟨F, hF⟩ := hch
  have hptj : ∀ o o', o < n → o' < n → ∀ i : Nat, pt o = (i : Int) → pt o' = (i : Int) → o = o' := fun o o' ho ho' i e e' => by
    rcases hM.2.2 o ho with q | ⟨i1, b1, b2, b3, b4⟩
    · omega
    rcases hM.2.2 o' ho' with q | ⟨i2, c1, c2, c3, c4⟩
    · omega
    have e1 : i1 = i := by omega
    have e2 : i2 = i := by omega
    subst e1 e2
    omega
  have := pig (kn - 1) kn F (fun j hj => (hF j hj).1) (fun j j' hj hj' e => by
    have a := (hF j hj).2
    have b := (hF j' hj').2
    rw [← e] at b
    have q := hptj _ _ (p1 (W j) (h3 j hj).2 (hdear j hj)).1 (p1 (W j') (h3 j' hj').2 (hdear j' hj')).1 _ a b
    exact h4 j j' hj hj' (p2 _ _ (h3 j hj).2 (h3 j' hj').2 (hdear j hj) (hdear j' hj') q))
  omega
theorem Mt.full {adj : Nat → Nat → Prop} {m n : Nat} {S dear : Nat → Prop} {po pt : Nat → Int} (h : Mt adj m n S po pt) (hS : ∀ i, i < m → dear i → S i) : Pm adj dear m n := by
  refine ⟨fun i => (po i).toNat, fun i hi hd => ?_, fun i j hi hj hd hd' e => ?_⟩
  · obtain ⟨o, a1, a2, a3, a4⟩ := h.1 i hi (hS i hi hd)
    show (po i).toNat < n ∧ adj i (po i).toNat
    rw [a2, Int.toNat_natCast]
    exact ⟨a1, a3⟩
  · obtain ⟨o, a1, a2, a3, a4⟩ := h.1 i hi (hS i hi hd)
    obtain ⟨o', b1, b2, b3, b4⟩ := h.1 j hj (hS j hj hd')
    have e : (po i).toNat = (po j).toNat := e
    rw [a2, b2, Int.toNat_natCast, Int.toNat_natCast] at e
    rw [e, b4] at a4
    omega
theorem Js.rfr {adj : Nat → Nat → Prop} {m n : Nat} {S : Nat → Prop} {first : Nat} {po pt wt rf : Nat → Int} {W : Nat → Nat} {kn k oth : Nat} (h : Js adj m n S first po pt W kn k oth wt rf) (hm : m ≤ 32) : ∀ o, o < n → -2147483648 ≤ rf o ∧ rf o < 2147483648 := fun o ho => by
  rcases h.2.2.2.2.2.1 o ho with q | ⟨⟨i, a1, a2⟩, -⟩ <;> omega

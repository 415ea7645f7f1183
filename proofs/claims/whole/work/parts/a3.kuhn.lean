/-! the model's pairing -/
def tz (td : Nat → Int) : Nat → Nat
  | 0 => 0
  | n + 1 => tz td n + (if td n = 0 then 1 else 0)
theorem tz_z {td : Nat → Int} {n : Nat} (h : td n = 0) : tz td (n + 1) = tz td n + 1 := by rw [tz, if_pos h]
theorem tz_o {td : Nat → Int} {n : Nat} (h : ¬ td n = 0) : tz td (n + 1) = tz td n := by rw [tz, if_neg h, Nat.add_zero]
theorem tz_le {td td' : Nat → Int} : ∀ n, (∀ k, k < n → td k ≠ 0 → td' k ≠ 0) → tz td' n ≤ tz td n
  | 0, _ => Nat.le_refl _
  | n + 1, h => by
    have ih := tz_le (td := td) (td' := td') n (fun k hk => h k (by omega))
    have := h n (by omega)
    by_cases e : td n = 0
    · by_cases e' : td' n = 0
      · rw [tz_z e, tz_z e']; omega
      · rw [tz_z e, tz_o e']; omega
    · rw [tz_o e, tz_o (this e)]; exact ih
theorem tz_lt {td : Nat → Int} {k : Nat} : ∀ n, k < n → td k = 0 → tz (up td k 1) n + 1 ≤ tz td n
  | 0, h, _ => absurd h (Nat.not_lt_zero _)
  | n + 1, h, h0 => by
    by_cases e : k = n
    · have := tz_le (td := td) (td' := up td k 1) n (fun j hj q => by
        by_cases z : j = k
        · rw [z, up_s]; omega
        · rw [up_n _ _ z]; exact q)
      subst e
      rw [tz_z h0, tz_o (by rw [up_s]; omega)]
      omega
    · have ih := tz_lt (td := td) (k := k) n (by omega) h0
      by_cases q : td n = 0
      · rw [tz_z q, tz_z (by rw [up_n _ _ (by omega)]; exact q)]; omega
      · rw [tz_o q, tz_o (by rw [up_n _ _ (by omega)]; exact q)]; omega
theorem tz_n (td : Nat → Int) : ∀ n, tz td n ≤ n
  | 0 => Nat.le_refl _
  | n + 1 => by
    have := tz_n td n
    rw [tz]; split <;> omega
/-- before a search for i -/
def K0 (adj : Nat → Nat → Prop) (m n i : Nat) (pr td : Nat → Int) : Prop :=
  (∀ k, k < n → pr k = -1 ∨ ∃ j : Nat, j < m ∧ pr k = (j : Int) ∧ adj j k) ∧ (∀ k k', k < n → k' < n → td k = 0 → td k' = 0 → pr k ≠ -1 → pr k = pr k' → k = k') ∧ ∀ k, k < n → td k = 0 → pr k ≠ (i : Int)
/-- after a search that found -/
def KY (adj : Nat → Nat → Prop) (m n i : Nat) (pr td pr' : Nat → Int) : Prop :=
  (∀ k, k < n → td k ≠ 0 → pr' k = pr k) ∧ (∀ k, k < n → pr' k = -1 ∨ ∃ j : Nat, j < m ∧ pr' k = (j : Int) ∧ adj j k) ∧ (∀ k k', k < n → k' < n → td k = 0 → td k' = 0 → pr' k ≠ -1 → pr' k = pr' k' → k = k') ∧
  ∀ x : Nat, (∃ k, k < n ∧ td k = 0 ∧ pr' k = (x : Int)) ↔ x = i ∨ ∃ k, k < n ∧ td k = 0 ∧ pr k = (x : Int)
/-- during a search: before k nothing is left -/
def KN (adj : Nat → Nat → Prop) (n i k : Nat) (pr td td' : Nat → Int) : Prop :=
  (∀ j, j < n → td j ≠ 0 → td' j ≠ 0) ∧ (∀ j, j < k → j < n → adj i j → td' j ≠ 0) ∧ ∀ j, j < n → td j = 0 → td' j ≠ 0 → ∃ x : Nat, pr j = (x : Int) ∧ ∀ j', j' < n → adj x j' → td' j' ≠ 0
theorem KN.start {adj : Nat → Nat → Prop} {n i : Nat} {pr td : Nat → Int} : KN adj n i 0 pr td td := ⟨fun _ _ h => h, fun j h => absurd h (Nat.not_lt_zero _), fun j _ h h' => absurd h h'⟩
theorem KN.skip {adj : Nat → Nat → Prop} {n i k : Nat} {pr td td' : Nat → Int} (h : KN adj n i k pr td td') (hs : adj i k → td' k ≠ 0) : KN adj n i (k + 1) pr td td' := by
  refine ⟨h.1, fun j hj hn ha => ?_, h.2.2⟩
  by_cases e : j = k
  · rw [e]; rw [e] at ha; exact hs ha
  · exact h.2.1 j (by omega) hn ha
/-- the state of the search one deeper -/
theorem KN.deep {adj : Nat → Nat → Prop} {m n i k x : Nat} {pr td td1 : Nat → Int} (h0 : K0 adj m n i pr td) (h : KN adj n i k pr td td1) (hk : k < n) (ht : td1 k = 0) (hx : pr k = (x : Int)) : x < m ∧ K0 adj m n x pr (up td1 k 1) := by
  have htd : ∀ j, j < n → up td1 k 1 j = 0 → td j = 0 ∧ j ≠ k := fun j hj e => by
    by_cases q : j = k
    · rw [q, up_s] at e; omega
    · rw [up_n _ _ q] at e
      exact ⟨Classical.byContradiction fun z => h.1 j hj z e, q⟩
  have htk : td k = 0 := Classical.byContradiction fun z => h.1 k hk z ht
  refine ⟨?_, h0.1, fun a b ha hb ta tb => h0.2.1 a b ha hb (htd a ha ta).1 (htd b hb tb).1, fun j hj e q => ?_⟩
  · rcases h0.1 k hk with e | ⟨j, a, b, c⟩ <;> omega
  · exact (htd j hj e).2 (h0.2.1 j k hj hk (htd j hj e).1 htk (by omega) (q.trans hx.symm))
theorem KN.fail {adj : Nat → Nat → Prop} {n i k x : Nat} {pr td td1 td3 : Nat → Int} (h : KN adj n i k pr td td1) (hk : k < n) (hx : pr k = (x : Int)) (h2 : KN adj n x n pr (up td1 k 1) td3) : KN adj n i (k + 1) pr td td3 := by
  have mono : ∀ j, j < n → td1 j ≠ 0 → td3 j ≠ 0 := fun j hj e => h2.1 j hj (by
    by_cases q : j = k
    · rw [q, up_s]; omega
    · rw [up_n _ _ q]; exact e)
  have hk3 : td3 k ≠ 0 := h2.1 k hk (by rw [up_s]; omega)
  refine ⟨fun j hj e => mono j hj (h.1 j hj e), fun j hj hn ha => ?_, fun j hj e e3 => ?_⟩
  · by_cases q : j = k
    · rw [q]; exact hk3
    · exact mono j hn (h.2.1 j (by omega) hn ha)
  · by_cases q : j = k
    · rw [q]; exact ⟨x, hx, fun j' hj' ha => h2.2.1 j' hj' hj' ha⟩
    · by_cases e1 : td1 j = 0
      · exact h2.2.2 j hj (by rw [up_n _ _ q]; exact e1) e3
      · obtain ⟨x', a, b⟩ := h.2.2 j hj e e1
        exact ⟨x', a, fun j' hj' ha => mono j' hj' (b j' hj' ha)⟩
theorem KY.free {adj : Nat → Nat → Prop} {m n i k : Nat} {pr td td1 : Nat → Int} (h0 : K0 adj m n i pr td) (h : KN adj n i k pr td td1) (hi : i < m) (hk : k < n) (ht : td1 k = 0) (ha : adj i k) (hx : pr k = -1) : KY adj m n i pr td (up pr k (i : Int)) := by
  have htk : td k = 0 := Classical.byContradiction fun z => h.1 k hk z ht
  refine ⟨fun j hj e => up_n _ _ (fun q => e (q ▸ htk)), fun j hj => ?_, fun a b ha' hb ta tb hne e => ?_, fun x => ?_⟩
  · by_cases q : j = k
    · rw [q, up_s]; exact Or.inr ⟨i, hi, rfl, ha⟩
    · rw [up_n _ _ q]; exact h0.1 j hj
  · by_cases q1 : a = k
    · by_cases q2 : b = k
      · omega
      · rw [q1, up_s, up_n _ _ q2] at e
        exact absurd e.symm (h0.2.2 b hb tb)
    · by_cases q2 : b = k
      · rw [q2, up_s, up_n _ _ q1] at e
        exact absurd e (h0.2.2 a ha' ta)
      · rw [up_n _ _ q1] at hne e
        rw [up_n _ _ q2] at e
        exact h0.2.1 a b ha' hb ta tb hne e
  · constructor
    · rintro ⟨j, a, b, c⟩
      by_cases q : j = k
      · rw [q, up_s] at c; exact Or.inl (by omega)
      · rw [up_n _ _ q] at c; exact Or.inr ⟨j, a, b, c⟩
    · rintro (e | ⟨j, a, b, c⟩)
      · exact ⟨k, hk, htk, by rw [up_s, e]⟩
      · exact ⟨j, a, b, by rw [up_n _ _ (fun q => by rw [q, hx] at c; omega)]; exact c⟩
theorem KY.deep {adj : Nat → Nat → Prop} {m n i k x : Nat} {pr td td1 pr3 : Nat → Int} (h0 : K0 adj m n i pr td) (h : KN adj n i k pr td td1) (hi : i < m) (hk : k < n) (ht : td1 k = 0) (ha : adj i k) (hx : pr k = (x : Int)) (h3 : KY adj m n x pr (up td1 k 1) pr3) : KY adj m n i pr td (up pr3 k (i : Int)) := by
  have htk : td k = 0 := Classical.byContradiction fun z => h.1 k hk z ht
  have htd : ∀ j, j < n → up td1 k 1 j = 0 → td j = 0 ∧ j ≠ k := fun j hj e => by
    by_cases q : j = k
    · rw [q, up_s] at e; omega
    · rw [up_n _ _ q] at e
      exact ⟨Classical.byContradiction fun z => h.1 j hj z e, q⟩
  obtain ⟨y1, y2, y3, y4⟩ := h3
  have hni : ∀ j, j < n → td j = 0 → j ≠ k → pr3 j ≠ (i : Int) := fun j hj e hne q => by
    by_cases t2 : up td1 k 1 j = 0
    · rcases (y4 i).mp ⟨j, hj, t2, q⟩ with z | ⟨j', a, b, c⟩
      · exact h0.2.2 k hk htk (by rw [hx, z])
      · exact h0.2.2 j' a (htd j' a b).1 c
    · rw [y1 j hj t2] at q
      exact h0.2.2 j hj e q
  have hmix : ∀ a b, a < n → b < n → td a = 0 → td b = 0 → b ≠ k → up td1 k 1 a = 0 → ¬ up td1 k 1 b = 0 → pr3 a ≠ -1 → pr3 a = pr3 b → False := fun a b ha' hb ta tb hbk t2 t3 hne e => by
    rw [y1 b hb t3] at e
    rcases y2 a ha' with z | ⟨j, j1, j2, j3⟩
    · exact hne z
    rcases (y4 j).mp ⟨a, ha', t2, j2⟩ with z | ⟨j', c1, c2, c3⟩
    · exact hbk (h0.2.1 b k hb hk tb htk (by omega) (by omega))
    · have := h0.2.1 j' b c1 hb (htd j' c1 c2).1 tb (by omega) (by omega)
      rw [this] at c2
      exact t3 c2
  refine ⟨fun j hj e => ?_, fun j hj => ?_, fun a b ha' hb ta tb hne e => ?_, fun w => ?_⟩
  · have q : j ≠ k := fun q => e (q ▸ htk)
    rw [up_n _ _ q]
    exact y1 j hj (fun z => e (htd j hj z).1)
  · by_cases q : j = k
    · rw [q, up_s]; exact Or.inr ⟨i, hi, rfl, ha⟩
    · rw [up_n _ _ q]; exact y2 j hj
  · by_cases q1 : a = k
    · by_cases q2 : b = k
      · omega
      · rw [q1, up_s, up_n _ _ q2] at e
        exact absurd e.symm (hni b hb tb q2)
    · by_cases q2 : b = k
      · rw [q2, up_s, up_n _ _ q1] at e
        exact absurd e (hni a ha' ta q1)
      · rw [up_n _ _ q1] at hne e
        rw [up_n _ _ q2] at e
        by_cases t2 : up td1 k 1 a = 0
        · by_cases t3 : up td1 k 1 b = 0
          · exact y3 a b ha' hb t2 t3 hne e
          · exact (hmix a b ha' hb ta tb q2 t2 t3 hne e).elim
        · by_cases t3 : up td1 k 1 b = 0
          · exact (hmix b a hb ha' tb ta q1 t3 t2 (by omega) e.symm).elim
          · rw [y1 a ha' t2] at hne e
            rw [y1 b hb t3] at e
            exact h0.2.1 a b ha' hb ta tb hne e
  · constructor
    · rintro ⟨j, a, b, c⟩
      by_cases q : j = k
      · rw [q, up_s] at c; exact Or.inl (by omega)
      · rw [up_n _ _ q] at c
        by_cases t2 : up td1 k 1 j = 0
        · rcases (y4 w).mp ⟨j, a, t2, c⟩ with z | ⟨j', c1, c2, c3⟩
          · exact Or.inr ⟨k, hk, htk, by rw [hx, z]⟩
          · exact Or.inr ⟨j', c1, (htd j' c1 c2).1, c3⟩
        · rw [y1 j a t2] at c
          exact Or.inr ⟨j, a, b, c⟩
    · rintro (e | ⟨j, a, b, c⟩)
      · exact ⟨k, hk, htk, by rw [up_s, e]⟩
      · by_cases t2 : up td1 k 1 j = 0
        · obtain ⟨j', c1, c2, c3⟩ := (y4 w).mpr (Or.inr ⟨j, a, t2, c⟩)
          exact ⟨j', c1, (htd j' c1 c2).1, (up_n _ _ (htd j' c1 c2).2).trans c3⟩
        · by_cases q : j = k
          · obtain ⟨j', c1, c2, c3⟩ := (y4 x).mpr (Or.inl rfl)
            refine ⟨j', c1, (htd j' c1 c2).1, (up_n _ _ (htd j' c1 c2).2).trans (c3.trans ?_)⟩
            rw [← hx, ← q, c]
          · exact ⟨j, a, b, (up_n _ _ q).trans ((y1 j a t2).trans c)⟩
/-- a search that fails from the start shows that there is no pairing -/
theorem KN.none {adj : Nat → Nat → Prop} {m n i : Nat} {dear : Nat → Prop} {pr td td' : Nat → Int} (h0 : K0 adj m n i pr td) (ht : ∀ k, k < n → td k = 0) (h : KN adj n i n pr td td') (hi : i < m) (hd : dear i) (hS : ∀ k (x : Nat), k < n → pr k = (x : Int) → dear x) : ¬ Pm adj dear m n := by
  rintro ⟨φ, p1, p2⟩
  have hst : ∀ k, k < n → td' k ≠ 0 → (pr k).toNat < m ∧ dear (pr k).toNat ∧ φ (pr k).toNat < n ∧ td' (φ (pr k).toNat) ≠ 0 ∧ pr k ≠ -1 := fun k hk e => by
    obtain ⟨x, a, b⟩ := h.2.2 k hk (ht k hk) e
    have hx : x < m := by
      rcases h0.1 k hk with z | ⟨j, j1, j2, j3⟩ <;> omega
    have hdx := hS k x hk a
    obtain ⟨c1, c2⟩ := p1 x hx hdx
    rw [a, Int.toNat_natCast]
    exact ⟨hx, hdx, c1, b _ c1 c2, by omega⟩
  obtain ⟨d1, d2⟩ := p1 i hi hd
  let Kq : Nat → Nat := fun j => Nat.rec (φ i) (fun _ q => φ (pr q).toNat) j
  have hK0 : Kq 0 = φ i := rfl
  have hKs : ∀ j, Kq (j + 1) = φ (pr (Kq j)).toNat := fun j => rfl
  have hK : ∀ j, Kq j < n ∧ td' (Kq j) ≠ 0 := fun j => by
    induction j with
    | zero => rw [hK0]; exact ⟨d1, h.2.1 _ d1 d1 d2⟩
    | succ j ih => rw [hKs]; exact ⟨(hst _ ih.1 ih.2).2.2.1, (hst _ ih.1 ih.2).2.2.2.1⟩
  have hne : ∀ a b, a < b → Kq a ≠ Kq b := fun a => by
    induction a with
    | zero =>
      intro b hb e
      obtain ⟨b, rfl⟩ : ∃ c, b = c + 1 := ⟨b - 1, by omega⟩
      rw [hK0, hKs] at e
      have q := hst _ (hK b).1 (hK b).2
      have := p2 _ _ hi q.1 hd q.2.1 e
      refine h0.2.2 _ (hK b).1 (ht _ (hK b).1) ?_
      rcases h0.1 _ (hK b).1 with z | ⟨j, j1, j2, j3⟩
      · exact absurd z q.2.2.2.2
      · rw [j2, Int.toNat_natCast] at this
        omega
    | succ a ih =>
      intro b hb e
      obtain ⟨b, rfl⟩ : ∃ c, b = c + 1 := ⟨b - 1, by omega⟩
      rw [hKs, hKs] at e
      have q := hst _ (hK a).1 (hK a).2
      have q' := hst _ (hK b).1 (hK b).2
      have := p2 _ _ q.1 q'.1 q.2.1 q'.2.1 e
      refine ih b (by omega) (h0.2.1 _ _ (hK a).1 (hK b).1 (ht _ (hK a).1) (ht _ (hK b).1) q.2.2.2.2 ?_)
      rcases h0.1 _ (hK a).1 with z | ⟨j, j1, j2, j3⟩
      · exact absurd z q.2.2.2.2
      rcases h0.1 _ (hK b).1 with z | ⟨j', k1, k2, k3⟩
      · exact absurd z q'.2.2.2.2
      rw [j2, k2, Int.toNat_natCast, Int.toNat_natCast] at this
      rw [j2, k2, this]
  have := pig n (n + 1) Kq (fun j _ => (hK j).1) (fun a b _ _ e => Classical.byContradiction fun z => by
    rcases Nat.lt_or_gt_of_ne z with q | q
    · exact hne a b q e
    · exact hne b a q e.symm)
  omega

/-! rank: columns led along -/
def vKd {K : Type} [Lean.Grind.CommRing K] (T : Nat → Nat → Nat → K) (ak : Nat → Nat) (x : Nat) : Nat → Nat → K
  | 0 => e1 x
  | t + 1 => Fk 4 T (ak t) (vKd T ak x t)
theorem Bar.ranks {K : Type} [Lean.Grind.CommRing K] {N : Nat} {s : Nat → Nat} {Lf : Nat → Bool} {T : Nat → Nat → Nat → K} {R : Nat} {st en : Nat → Nat} {x : Nat → Nat → Nat → K} (h : Bar N 4 s Lf T R st en x) {pk ak : Nat → Nat} {n : Nat} (h0 : pk 0 < N) (hak : ∀ t, t < n → ak t + 1 < N ∧ so Lf (ak t) = pk t ∧ ta Lf (ak t) = pk (t + 1)) (hmid : ∀ t, t < n → ∀ r, lv st en (pk 0) r → lv st en (pk (t + 1)) r → lv st en (pk t) r) : ∀ t, t ≤ n → ∀ v, Spn (s (pk 0)) (fun _ => True) (fun z => vKd T ak z t) v ↔ Spn R (fun r => lv st en (pk 0) r ∧ lv st en (pk t) r) (fun r => x r (pk t)) v := by
  have hmv := fun {k : Nat} (hk : k + 1 < N) {r : Nat} (hr : r < R) (i : Nat) => h.mv hk hr i
  obtain ⟨h1, h2, h3, h4, h5, h6, h7⟩ := h
  intro t
  induction t with
  | zero =>
    intro _ v
    constructor
    · rintro ⟨c, c1, c2⟩
      have hv : ∀ i, s (pk 0) ≤ i → v i = 0 := fun i hi => by
        rw [c2 i]
        exact su_z _ (fun z hz => by
          show c z * e1 z i = 0
          unfold e1
          rw [if_neg (by omega)]; grind)
      exact (h5 (pk 0) h0 v hv).cgA (fun r _ q => ⟨q, q⟩)
    · rintro ⟨c, c1, c2⟩
      have hv : ∀ i, s (pk 0) ≤ i → v i = 0 := fun i hi => by
        rw [c2 i]
        exact su_z _ (fun r hr => by dsimp only; rw [h3 r _ i hr hi]; grind)
      exact ⟨v, fun r q => absurd trivial q, fun i => su_e1 hv i⟩
  | succ t ih =>
    intro ht v
    obtain ⟨a1, a2, a3⟩ := hak t (by omega)
    have ih := ih (by omega)
    have hm : ∀ r i, r < R → Fk 4 T (ak t) (x r (pk t)) i = if st r ≤ pk t ∧ pk t ≤ en r then x r (pk (t + 1)) i else 0 := fun r i hr => by
      have := hmv a1 hr i
      rwa [a2, a3] at this
    constructor
    · rintro ⟨c, c1, c2⟩
      obtain ⟨b, b1, b2⟩ := (ih (fun i => su (s (pk 0)) (fun z => c z * vKd T ak z t i))).mp ⟨c, c1, fun i => rfl⟩
      refine ⟨fun r => if st r ≤ pk (t + 1) ∧ pk (t + 1) ≤ en r then b r else 0, fun r hr => ?_, fun i => ?_⟩
      · dsimp only
        by_cases l : st r ≤ pk (t + 1) ∧ pk (t + 1) ≤ en r
        · rw [if_pos l]
          exact b1 r (fun q => hr ⟨q.1, l⟩)
        · rw [if_neg l]
      · rw [c2 i]
        show su (s (pk 0)) (fun z => c z * Fk 4 T (ak t) (vKd T ak z t) i) = _
        rw [← Fk_su, Fk_cg b2, Fk_su]
        refine su_cg R (fun r hr => ?_)
        dsimp only
        rw [hm r i hr]
        by_cases l2 : lv st en (pk 0) r ∧ lv st en (pk t) r
        · rw [if_pos (show st r ≤ pk t ∧ pk t ≤ en r from l2.2)]
          by_cases l : st r ≤ pk (t + 1) ∧ pk (t + 1) ≤ en r
          · rw [if_pos l]
          · rw [if_neg l, h2 r (pk (t + 1)) i hr (by omega)]; grind
        · rw [b1 r l2]
          by_cases l : st r ≤ pk (t + 1) ∧ pk (t + 1) ≤ en r
          · rw [if_pos l]; grind
          · rw [if_neg l]; grind
    · rintro ⟨b, b1, b2⟩
      obtain ⟨c, c1, c2⟩ := (ih (fun i => su R (fun r => b r * x r (pk t) i))).mpr ⟨b, fun r hr => b1 r (fun q => hr ⟨q.1, hmid t (by omega) r q.1 q.2⟩), fun i => rfl⟩
      refine ⟨c, c1, fun i => ?_⟩
      show v i = su (s (pk 0)) (fun z => c z * Fk 4 T (ak t) (vKd T ak z t) i)
      rw [← Fk_su, ← Fk_cg c2, Fk_su, b2 i]
      refine su_cg R (fun r hr => ?_)
      dsimp only
      rw [hm r i hr]
      by_cases l2 : lv st en (pk 0) r ∧ lv st en (pk (t + 1)) r
      · rw [if_pos (show st r ≤ pk t ∧ pk t ≤ en r from hmid t (by omega) r l2.1 l2.2)]
      · rw [b1 r l2]; grind
theorem ldS_K {K : Type} [Lean.Grind.CommRing K] {p : Nat} {f : Int → K} (hf : Iot p f) {T : Nat → Int} {l k : Nat} {col : Nat → Int} {i : Nat} : ∀ j, f (ldS T p l k col i j) = su j (fun x => f (T (l * 128 + k * 16 + i * 4 + x)) * f (col x))
  | 0 => hf.zero
  | j + 1 => by
    show f ((ldS T p l k col i j + T (l * 128 + k * 16 + i * 4 + j) * col j) % p) = _
    rw [hf.mod, hf.1, hf.2.1, ldS_K hf j, su_s]
theorem rank_step {K : Type} [Lean.Grind.CommRing K] {p : Nat} {f : Int → K} (hf : Iot p f) {T : Nat → Int} {Lf : Nat → Bool} {s : Nat → Nat} {l k q r : Nat} (hso : so Lf k = q) (hta : ta Lf k = r) (hq : s q ≤ 4) (hr : s r ≤ 4) {col col' : Nat → Int} (hc : ∀ z, z < s r → col' z = ldS T p l k col z (s q)) {v : Nat → K} (hv : ∀ z, tr (s q) f col z = v z) (z : Nat) : tr (s r) f col' z = Fk 4 (TK f T Lf s l) k v z := by
  by_cases hz : z < s r
  · rw [tr_lt hz, hc z hz, ldS_K hf, FkT (by rw [hso]; exact hq) (by rw [hta]; exact hz), hso]
    exact su_cg _ (fun x hx => by rw [← hv x, tr_lt hx])
  · rw [tr_ge (by omega), FkT0 (by rw [hta]; omega)]
theorem rank_K {K : Type} [Lean.Grind.CommRing K] {p : Nat} {f : Int → K} (hf : Iot p f) (hP : isP p) {N : Nat} {s : Nat → Nat} {Lf : Nat → Bool} {T : Nat → Nat → Nat → K} {R : Nat} {st en : Nat → Nat} {x : Nat → Nat → Nat → K} (h : Bar N 4 s Lf T R st en x) {pk ak : Nat → Nat} {n : Nat} (h0 : pk 0 < N) (hn : pk n < N) (hak : ∀ t, t < n → ak t + 1 < N ∧ so Lf (ak t) = pk t ∧ ta Lf (ak t) = pk (t + 1)) (hmid : ∀ t, t < n → ∀ r, lv st en (pk 0) r → lv st en (pk (t + 1)) r → lv st en (pk t) r) {a b : Nat} (hab : ∀ r, (lv st en (pk 0) r ∧ lv st en (pk n) r) ↔ (st r ≤ a ∧ b ≤ en r))
    {M : Nat → Nat → Int} (hM : ∀ z, z < s (pk 0) → ∀ c, tr (s (pk n)) f (M z) c = vKd T ak z n c) {k1 : Nat} {M1 : Nat → Nat → K} {H : Nat → Nat} (hK : RK (s (pk n)) k1 M1 H) (hSp : ∀ v, Spn k1 (fun _ => True) M1 v ↔ Spn (s (pk 0)) (fun _ => True) (fun i => tr (s (pk n)) f (M i)) v) : k1 = cov R st en a b := by
  have hb := h.ranks h0 hak hmid n (Nat.le_refl _)
  have hI : Ind R (fun r => decide (st r ≤ a ∧ b ≤ en r) = true) (fun r => x r (pk n)) := (h.2.2.2.1 (pk n) hn).cgA (fun r _ q => ((hab r).mpr (by simpa using q)).2)
  refine dim_B (hf.inv hP) (hf.ne hP.le.1) hI hK.ind (fun v => ?_)
  rw [hSp v]
  have e1 : Spn (s (pk 0)) (fun _ => True) (fun i => tr (s (pk n)) f (M i)) v ↔ Spn (s (pk 0)) (fun _ => True) (fun z => vKd T ak z n) v :=
    ⟨fun q => q.cgx (fun z c hz _ => (hM z hz c).symm), fun q => q.cgx (fun z c hz _ => hM z hz c)⟩
  rw [e1, hb v]
  exact ⟨fun q => q.cgA (fun r _ z => (hab r).mpr (by simpa using z)), fun q => q.cgA (fun r _ z => by simpa using (hab r).mp z)⟩

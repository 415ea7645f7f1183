theorem rowT_K {K : Type} [Lean.Grind.CommRing K] {p : Nat} {f : Int → K} (hf : Iot p f) {s : Nat → Nat} {T : Nat → Int} {Lf : Nat → Bool} {l a b k x : Nat} (hs : ∀ k, k ≤ b → s k ≤ 4) (hak : a ≤ k) (hk : k < b) (hx : x < s (so Lf k)) (c : Nat) : tr (frs s a (b + 1)) f (rowT s T Lf p l a k x) c = em (frs s a) s (so Lf k) (e1 x) c - em (frs s a) s (ta Lf k) (Fk 4 (TK f T Lf s l) k (e1 x)) c := by
  have hst := so_ta (Lf := Lf) (k := k)
  have hso8 := frs_mono (s := s) (a := a) (so Lf k) (b + 1) (by omega) (by omega)
  have hta8 := frs_mono (s := s) (a := a) (ta Lf k) (b + 1) (by omega) (by omega)
  have hdis : frs s a (so Lf k) + s (so Lf k) ≤ frs s a (ta Lf k) ∨ frs s a (ta Lf k) + s (ta Lf k) ≤ frs s a (so Lf k) := by
    rcases hst with ⟨_, e1, e2⟩ | ⟨_, e1, e2⟩
    · right; rw [e1, e2]; exact frs_mono k (k + 1) hak (by omega)
    · left; rw [e1, e2]; exact frs_mono k (k + 1) hak (by omega)
  by_cases hc : c < frs s a (b + 1)
  · rw [tr_lt hc]
    unfold rowT em
    by_cases e3 : frs s a (ta Lf k) ≤ c ∧ c < frs s a (ta Lf k) + s (ta Lf k)
    · rw [if_pos e3, if_pos e3, if_neg (by omega), hf.mod, hf.neg, FkT (hs _ (by omega)) (by omega), su_one hx _ (fun j _ hne => by unfold e1; rw [if_neg hne]; grind)]
      unfold e1
      rw [if_pos rfl]; grind
    · rw [if_neg e3, if_neg e3]
      by_cases e : c = frs s a (so Lf k) + x
      · rw [if_pos e, if_pos (by omega), hf.2.2.1]
        unfold e1
        rw [if_pos (by omega)]; grind
      · rw [if_neg e, hf.zero]
        by_cases e2 : frs s a (so Lf k) ≤ c ∧ c < frs s a (so Lf k) + s (so Lf k)
        · rw [if_pos e2]
          unfold e1
          rw [if_neg (by omega)]; grind
        · rw [if_neg e2]; grind
  · rw [tr_ge (by omega)]
    unfold em
    rw [if_neg (by omega), if_neg (by omega)]; grind
theorem thr_K {K : Type} [Lean.Grind.CommRing K] {p : Nat} {f : Int → K} (hf : Iot p f) (hP : isP p) {s : Nat → Nat} {T : Nat → Int} {Lf : Nat → Bool} {l a b N : Nat} (hab : a ≤ b) (hb : b < N) (hs : ∀ k, k ≤ b → s k ≤ 4) {R : Nat} {st en : Nat → Nat} {x : Nat → Nat → Nat → K} (hB : Bar N 4 s Lf (TK f T Lf s l) R st en x)
    {m : Nat} {M : Nat → Nat → Int} (hR : RwB m (frs s a (b + 1)) M (dnT s Lf a b b 0) (rowT s T Lf p l a))
    {k1 : Nat} {M1 : Nat → Nat → Int} {ld : Nat → Int} (hK : RK (frs s a (b + 1)) k1 (fun i => tr (frs s a (b + 1)) f (M1 i)) (fun r => (ld r).toNat)) (hSp : ∀ v, Spn k1 (fun _ => True) (fun i => tr (frs s a (b + 1)) f (M1 i)) v ↔ Spn m (fun _ => True) (fun i => tr (frs s a (b + 1)) f (M i)) v)
    {n : Nat} {Qs : Nat → Nat → Int} (hQ1 : ∀ t, t < n → ∃ Y : Nat → Nat → K, Sec f T Lf s l a b Y ∧ ∀ z, tr (s a) f (Qs t) z = Y a z) (hQ2 : ∀ Y : Nat → Nat → K, Sec f T Lf s l a b Y → Spn n (fun _ => True) (fun t => tr (s a) f (Qs t)) (Y a))
    {M2 : Nat → Nat → Int} (h2a : ∀ x, x < k1 → M2 x = M1 x) (h2b : ∀ j, j < n → ∀ c, c < frs s a (b + 1) → M2 (k1 + j) c = if c < s a then Qs j c else 0)
    {k2 : Nat} {M3 : Nat → Nat → Int} {ld3 : Nat → Int} (hK3 : RK (frs s a (b + 1)) k2 (fun i => tr (frs s a (b + 1)) f (M3 i)) (fun r => (ld3 r).toNat)) (hSp3 : ∀ v, Spn k2 (fun _ => True) (fun i => tr (frs s a (b + 1)) f (M3 i)) v ↔ Spn (k1 + n) (fun _ => True) (fun i => tr (frs s a (b + 1)) f (M2 i)) v) : k2 = k1 + cov R st en a b := by
  have h0 := frs_a s a
  have hw := frs_mono (s := s) (a := a) a (b + 1) (Nat.le_refl _) (by omega)
  rw [h0] at hw
  have hem : ∀ (u : Nat → K) c, em (frs s a) s a u c = if c < s a then u c else 0 := fun u c => by
    unfold em
    rw [h0]
    by_cases e : c < s a
    · rw [if_pos (by omega), if_pos e, Nat.sub_zero]
    · rw [if_neg (by omega), if_neg e]
  refine Bar.thr (Pr := fun t => em (frs s a) s a (tr (s a) f (Qs t))) (np := n) (hf.inv hP) (hf.ne hP.le.1) hB hab hb (fun k h1 _ => frs_s h1) (m := m) (G := fun i => tr (frs s a (b + 1)) f (M i)) (fun j hj => ?_) (fun k y h1 h2 h3 => ?_) hK.ind hSp (fun j hj => ?_) (fun Y y1 y2 => ?_) hK3.ind (fun v => ?_)
  · obtain ⟨k, i, ⟨q1, q2, q3, q4⟩, j2⟩ := hR.1 j hj
    refine ⟨k, i, q1, q2, q3, fun c => ?_⟩
    rw [← rowT_K hf hs q1 q2 q3]
    by_cases hc : c < frs s a (b + 1)
    · rw [tr_lt hc, tr_lt hc, j2 c hc]
    · rw [tr_ge (by omega), tr_ge (by omega)]
  · obtain ⟨j, j1, j2⟩ := hR.2 k y ⟨h1, h2, h3, Or.inl h2⟩
    refine ⟨j, j1, fun c => ?_⟩
    rw [← rowT_K hf hs h1 h2 h3]
    by_cases hc : c < frs s a (b + 1)
    · rw [tr_lt hc, tr_lt hc, j2 c hc]
    · rw [tr_ge (by omega), tr_ge (by omega)]
  · obtain ⟨Y, y1, y2⟩ := hQ1 j hj
    exact ⟨Y, y1.1, y1.2, fun c => em_cg y2 c⟩
  · obtain ⟨c, c1, c2⟩ := hQ2 Y ⟨y1, y2⟩
    refine ⟨c, c1, fun z => ?_⟩
    rw [em_cg c2, em_su]
  · rw [hSp3 v]
    have e9 : ∀ i c, i < k1 + n → tr (frs s a (b + 1)) f (M2 i) c = cat k1 (fun i => tr (frs s a (b + 1)) f (M1 i)) (fun t => em (frs s a) s a (tr (s a) f (Qs t))) i c := fun i c hi => by
      by_cases l : i < k1
      · rw [cat_lo l, h2a i l]
      · rw [show i = k1 + (i - k1) by omega, cat_hi, hem]
        by_cases hc : c < frs s a (b + 1)
        · rw [tr_lt hc, h2b _ (by omega) c hc]
          by_cases e : c < s a
          · rw [if_pos e, if_pos e, tr_lt e]
          · rw [if_neg e, if_neg e, hf.zero]
        · rw [tr_ge (by omega), if_neg (by omega)]
    constructor
    · intro h; exact h.cgx (fun r i hr _ => (e9 r i hr).symm)
    · intro h; exact h.cgx (fun r i hr _ => e9 r i hr)

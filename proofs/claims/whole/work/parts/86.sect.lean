/-! sections: solutions of the rows of 'same' -/
def vvS (p : Nat) (M : Nat → Nat → Int) (ld : Nat → Int) (z c : Nat) (v0 : Int) : Nat → Int
  | 0 => v0
  | r + 1 => if ld r = (z : Int) then (-(M r c)) % p else vvS p M ld z c v0 r
theorem vvS_K {K : Type} [Lean.Grind.CommRing K] {p : Nat} {f : Int → K} (hf : Iot p f) (h01 : (1 : K) ≠ 0) {w k : Nat} {M : Nat → Nat → Int} {ld : Nat → Int} (hR : RK w k (fun i => tr w f (M i)) (fun r => (ld r).toNat)) (hl : ∀ r, r < k → 0 ≤ ld r) {g z : Nat} (hg : g < w) (hfr : fre (fun r => (ld r).toNat) k g = true) : f (vvS p M ld z g (if z = g then 1 else 0) k) = sol k (fun i => tr w f (M i)) (fun r => (ld r).toNat) g z := by
  have key : ∀ r, r ≤ k → f (vvS p M ld z g (if z = g then 1 else 0) r) = e1 g z - su r (fun q => if (ld q).toNat = z then tr w f (M q) g else 0) := by
    intro r
    induction r with
    | zero =>
      intro _
      rw [su_0]
      show f (if z = g then 1 else 0) = _
      unfold e1
      by_cases e : z = g
      · rw [if_pos e, if_pos e, hf.2.2.1]; grind
      · rw [if_neg e, if_neg e, hf.zero]; grind
    | succ r ih =>
      intro hr
      have hlr := hl r (by omega)
      rw [su_s]
      show f (if ld r = (z : Int) then (-(M r g)) % p else vvS p M ld z g (if z = g then 1 else 0) r) = _
      by_cases e : ld r = (z : Int)
      · have e2 : (ld r).toNat = z := by omega
        rw [if_pos e, if_pos e2, hf.mod, hf.neg, tr_lt hg, su_z r (fun q hq => if_neg (fun e3 => by
          have := hR.inj h01 (show q < k by omega) (show r < k by omega) (e3.trans e2.symm)
          omega))]
        have hz : (e1 g : Nat → K) z = 0 := if_neg (fun e4 => fre_t.mp hfr r (by omega) (e2.trans e4))
        rw [hz]; grind
      · rw [if_neg e, if_neg (show ¬ (ld r).toNat = z by omega), ih (by omega)]; grind
  exact key k (Nat.le_refl _)
/-- the laying's tables in the field -/
def TK {K : Type} [Lean.Grind.CommRing K] (f : Int → K) (T : Nat → Int) (Lf : Nat → Bool) (s : Nat → Nat) (l : Nat) : Nat → Nat → Nat → K := fun k i j => if i < s (ta Lf k) ∧ j < s (so Lf k) then f (T (l * 128 + k * 16 + i * 4 + j)) else 0
theorem TK_out {K : Type} [Lean.Grind.CommRing K] {f : Int → K} {T : Nat → Int} {Lf : Nat → Bool} {s : Nat → Nat} {l : Nat} : ∀ k i j, (if Lf k = true then s k else s (k + 1)) ≤ i → TK f T Lf s l k i j = 0 := by
  intro k i j h
  unfold TK
  refine if_neg (fun q => ?_)
  have : (if Lf k = true then s k else s (k + 1)) = s (ta Lf k) := by
    unfold ta
    cases Lf k <;> rfl
  omega
theorem FkT {K : Type} [Lean.Grind.CommRing K] {f : Int → K} {T : Nat → Int} {Lf : Nat → Bool} {s : Nat → Nat} {l k i : Nat} (hs : s (so Lf k) ≤ 4) (hi : i < s (ta Lf k)) (u : Nat → K) : Fk 4 (TK f T Lf s l) k u i = su (s (so Lf k)) (fun x => f (T (l * 128 + k * 16 + i * 4 + x)) * u x) := by
  unfold Fk
  rw [su_le hs (fun j h1 h2 => by unfold TK; rw [if_neg (by omega)]; grind)]
  exact su_cg _ (fun j hj => by unfold TK; rw [if_pos ⟨hi, hj⟩])
theorem FkT0 {K : Type} [Lean.Grind.CommRing K] {f : Int → K} {T : Nat → Int} {Lf : Nat → Bool} {s : Nat → Nat} {l k i : Nat} (hi : s (ta Lf k) ≤ i) (u : Nat → K) : Fk 4 (TK f T Lf s l) k u i = 0 := su_z 4 (fun j _ => by unfold TK; rw [if_neg (by omega)]; grind)
theorem su_win {K : Type} [Lean.Grind.CommRing K] {w a n : Nat} (h : a + n ≤ w) (g : Nat → K) : su w (fun c => if a ≤ c ∧ c < a + n then g c else 0) = su n (fun x => g (a + x)) := by
  rw [show w = a + n + (w - (a + n)) by omega, su_split, su_split, su_z a (fun c hc => if_neg (by omega)), su_z (w - (a + n)) (fun c hc => if_neg (by omega)), su_cg n (g := fun x => g (a + x)) (fun x hx => if_pos (by omega))]
  grind
theorem rowS_dot {K : Type} [Lean.Grind.CommRing K] {p : Nat} {f : Int → K} (hf : Iot p f) {s : Nat → Nat} {T : Nat → Int} {Lf : Nat → Bool} {l a b k i : Nat} (hak : a ≤ k) (hk : k < b) (hi : i < s (ta Lf k)) (v : Nat → K) : su (frs s a (b + 1)) (fun c => f (rowS s T Lf p l a k i c) * v c) = su (s (so Lf k)) (fun x => f (T (l * 128 + k * 16 + i * 4 + x)) * v (frs s a (so Lf k) + x)) - v (frs s a (ta Lf k) + i) := by
  have hst := so_ta (Lf := Lf) (k := k)
  have hso8 := frs_mono (s := s) (a := a) (so Lf k) (b + 1) (by omega) (by omega)
  have hta8 := frs_mono (s := s) (a := a) (ta Lf k) (b + 1) (by omega) (by omega)
  have hdis : frs s a (so Lf k) + s (so Lf k) ≤ frs s a (ta Lf k) ∨ frs s a (ta Lf k) + s (ta Lf k) ≤ frs s a (so Lf k) := by
    rcases hst with ⟨_, e1, e2⟩ | ⟨_, e1, e2⟩
    · right; rw [e1, e2]; exact frs_mono k (k + 1) hak (by omega)
    · left; rw [e1, e2]; exact frs_mono k (k + 1) hak (by omega)
  have hp1 : f ((p : Int) - 1) = -1 := by
    rw [hf.sub, hf.2.2.1, (hf.2.2.2.1 (p : Int)).mpr (Int.dvd_refl _)]; grind
  rw [su_cg (frs s a (b + 1)) (g := fun c => (if frs s a (so Lf k) ≤ c ∧ c < frs s a (so Lf k) + s (so Lf k) then f (T (l * 128 + k * 16 + i * 4 + (c - frs s a (so Lf k)))) * v c else 0) + (if frs s a (ta Lf k) + i ≤ c ∧ c < frs s a (ta Lf k) + i + 1 then (-1) * v c else 0)) (fun c hc => by
    unfold rowS
    by_cases e : frs s a (so Lf k) ≤ c ∧ c < frs s a (so Lf k) + s (so Lf k)
    · rw [if_pos e, if_pos e, if_neg (by omega)]; grind
    · rw [if_neg e, if_neg e]
      by_cases e2 : c = frs s a (ta Lf k) + i
      · rw [if_pos e2, if_pos (by omega), hp1]; grind
      · rw [if_neg e2, if_neg (by omega), hf.zero]; grind), su_add, su_win hso8, su_win (by omega)]
  rw [su_s, su_0, su_cg (s (so Lf k)) (g := fun x => f (T (l * 128 + k * 16 + i * 4 + x)) * v (frs s a (so Lf k) + x)) (fun x _ => by rw [show frs s a (so Lf k) + x - frs s a (so Lf k) = x by omega])]
  rw [Nat.add_zero]
  grind
/-- two families of rows that make the same have the same solutions -/
theorem sol_le {K : Type} [Lean.Grind.CommRing K] {w m n : Nat} {x y : Nat → Nat → K} (h : ∀ j, j < n → Spn m (fun _ => True) x (y j)) {v : Nat → K} (hv : ∀ j, j < m → su w (fun c => x j c * v c) = 0) : ∀ j, j < n → su w (fun c => y j c * v c) = 0 := by
  intro j hj
  obtain ⟨a, -, ha⟩ := h j hj
  rw [su_cg w (g := fun c => su m (fun q => a q * (x q c * v c))) (fun c _ => by
    rw [ha c, ← su_mulr]
    exact su_cg m (fun q _ => by grind)), su_swap]
  exact su_z m (fun q hq => by rw [su_mul, hv q hq]; grind)
def Sec {K : Type} [Lean.Grind.CommRing K] (f : Int → K) (T : Nat → Int) (Lf : Nat → Bool) (s : Nat → Nat) (l a b : Nat) (Y : Nat → Nat → K) : Prop := (∀ k i, a ≤ k → k ≤ b → s k ≤ i → Y k i = 0) ∧ ∀ k i, a ≤ k → k < b → Fk 4 (TK f T Lf s l) k (Y (so Lf k)) i = Y (ta Lf k) i
theorem sec_sol {K : Type} [Lean.Grind.CommRing K] {p : Nat} {f : Int → K} (hf : Iot p f) {s : Nat → Nat} {T : Nat → Int} {Lf : Nat → Bool} {l a b : Nat} (hs : ∀ k, k ≤ b → s k ≤ 4) {m : Nat} {M : Nat → Nat → Int} (hR : RwB m (frs s a (b + 1)) M (dnS s Lf a b b 0) (rowS s T Lf p l a)) (v : Nat → K) : (∀ j, j < m → su (frs s a (b + 1)) (fun c => tr (frs s a (b + 1)) f (M j) c * v c) = 0) ↔ Sec f T Lf s l a b (fun k i => if i < s k then v (frs s a k + i) else 0) := by
  have hdot : ∀ k i, a ≤ k → k < b → i < s (ta Lf k) → su (frs s a (b + 1)) (fun c => f (rowS s T Lf p l a k i c) * v c) = Fk 4 (TK f T Lf s l) k (fun i => if i < s (so Lf k) then v (frs s a (so Lf k) + i) else 0) i - v (frs s a (ta Lf k) + i) := fun k i hak hk hi => by
    have hso : so Lf k ≤ b := by rcases so_ta (Lf := Lf) (k := k) with ⟨_, e, _⟩ | ⟨_, e, _⟩ <;> omega
    rw [rowS_dot hf hak hk hi, FkT (hs _ hso) hi]
    congr 1
    exact su_cg _ (fun x hx => by rw [if_pos hx])
  constructor
  · intro h
    refine ⟨fun k i _ _ hi => if_neg (by omega), fun k i hak hk => ?_⟩
    by_cases l : i < s (ta Lf k)
    · obtain ⟨j, j1, j2⟩ := hR.2 k i ⟨hak, hk, l, Or.inl hk⟩
      have := h j j1
      rw [su_cg _ (g := fun c => f (rowS s T Lf p _ a k i c) * v c) (fun c hc => by rw [tr_lt hc, j2 c hc]), hdot k i hak hk l] at this
      dsimp only
      rw [if_pos l]
      grind
    · dsimp only
      rw [if_neg l]
      exact FkT0 (by omega) _
  · intro h j hj
    obtain ⟨k, i, ⟨q1, q2, q3, q4⟩, j2⟩ := hR.1 j hj
    rw [su_cg _ (g := fun c => f (rowS s T Lf p l a k i c) * v c) (fun c hc => by rw [tr_lt hc, j2 c hc]), hdot k i q1 q2 q3]
    have := h.2 k i q1 q2
    dsimp only at this
    rw [if_pos q3] at this
    rw [this]
    grind
def flE {K : Type} [Lean.Grind.CommRing K] (fr s : Nat → Nat) (a b : Nat) (Y : Nat → Nat → K) : Nat → K := fun c => su (b + 1) (fun k => if a ≤ k then em fr s k (Y k) c else 0)
theorem flE_at {K : Type} [Lean.Grind.CommRing K] {fr s : Nat → Nat} {a b : Nat} (hfr : ∀ k, a ≤ k → k ≤ b → fr (k + 1) = fr k + s k) (Y : Nat → Nat → K) {k i : Nat} (hak : a ≤ k) (hk : k ≤ b) (hi : i < s k) : flE fr s a b Y (fr k + i) = Y k i := by
  unfold flE
  rw [su_one (show k < b + 1 by omega) _ (fun j hj hne => ?_), if_pos hak]
  · unfold em
    rw [if_pos ⟨by omega, by omega⟩, show fr k + i - fr k = i by omega]
  · by_cases h : a ≤ j
    · rw [if_pos h]
      unfold em
      rw [if_neg]
      rintro ⟨z1, z2⟩
      rcases Nat.lt_or_ge j k with l | l
      · have := fr_mono hfr j k h l (by omega)
        omega
      · have := fr_mono hfr k j hak (by omega) (by omega)
        omega
    · rw [if_neg h]
theorem flE_out {K : Type} [Lean.Grind.CommRing K] {fr s : Nat → Nat} {a b : Nat} (hfr : ∀ k, a ≤ k → k ≤ b → fr (k + 1) = fr k + s k) (Y : Nat → Nat → K) {c : Nat} (hc : fr (b + 1) ≤ c) : flE fr s a b Y c = 0 := by
  unfold flE
  refine su_z _ (fun k hk => ?_)
  by_cases h : a ≤ k
  · rw [if_pos h]
    unfold em
    rw [if_neg]
    rintro ⟨z1, z2⟩
    have := fr_mono hfr k (b + 1) h (by omega) (Nat.le_refl _)
    omega
  · rw [if_neg h]
/-- what 'same' finds: the sections' parts at the first post -/
theorem same_K {K : Type} [Lean.Grind.CommRing K] {p : Nat} {f : Int → K} (hf : Iot p f) (h01 : (1 : K) ≠ 0) {s : Nat → Nat} {T : Nat → Int} {Lf : Nat → Bool} {l a b : Nat} (hab : a ≤ b) (hs : ∀ k, k ≤ b → s k ≤ 4) {m : Nat} {M : Nat → Nat → Int} (hR : RwB m (frs s a (b + 1)) M (dnS s Lf a b b 0) (rowS s T Lf p l a))
    {k1 : Nat} {M1 : Nat → Nat → Int} {ld : Nat → Int} (hK : RK (frs s a (b + 1)) k1 (fun i => tr (frs s a (b + 1)) f (M1 i)) (fun r => (ld r).toNat)) (hl : ∀ r, r < k1 → 0 ≤ ld r) (hSp : ∀ v, Spn k1 (fun _ => True) (fun i => tr (frs s a (b + 1)) f (M1 i)) v ↔ Spn m (fun _ => True) (fun i => tr (frs s a (b + 1)) f (M i)) v)
    {n : Nat} {Qs : Nat → Nat → Int} (hQ1 : ∀ t, t < n → ∃ g, g < frs s a (b + 1) ∧ (∀ i, i < k1 → ld i ≠ (g : Int)) ∧ ∀ z, z < s a → Qs t z = vvS p M1 ld z g (if z = g then 1 else 0) k1) (hQ2 : ∀ g, g < frs s a (b + 1) → (∀ i, i < k1 → ld i ≠ (g : Int)) → ∃ t, t < n ∧ ∀ z, z < s a → Qs t z = vvS p M1 ld z g (if z = g then 1 else 0) k1) :
    (∀ t, t < n → ∃ Y : Nat → Nat → K, Sec f T Lf s l a b Y ∧ ∀ z, tr (s a) f (Qs t) z = Y a z) ∧ ∀ Y : Nat → Nat → K, Sec f T Lf s l a b Y → Spn n (fun _ => True) (fun t => tr (s a) f (Qs t)) (Y a) := by
  have hfree : ∀ g : Nat, (∀ i, i < k1 → ld i ≠ (g : Int)) ↔ fre (fun r => (ld r).toNat) k1 g = true := fun g => by
    rw [fre_t]
    constructor
    · intro h r hr e; exact h r hr (by have := hl r hr; omega)
    · intro h r hr e; exact h r hr (by omega)
  have h0 := frs_a s a
  have hw := frs_mono (s := s) (a := a) a (b + 1) (Nat.le_refl _) (by omega)
  rw [h0] at hw
  have hsol : ∀ v : Nat → K, (∀ r, r < k1 → su (frs s a (b + 1)) (fun c => tr (frs s a (b + 1)) f (M1 r) c * v c) = 0) ↔ Sec f T Lf s l a b (fun k i => if i < s k then v (frs s a k + i) else 0) := fun v => by
    rw [← sec_sol hf hs hR v]
    constructor
    · exact fun h => sol_le (fun j hj => (hSp _).mpr (Spn.one hj trivial)) h
    · exact fun h => sol_le (fun j hj => (hSp _).mp (Spn.one hj trivial)) h
  constructor
  · intro t ht
    obtain ⟨g, g1, g2, g3⟩ := hQ1 t ht
    have gf := (hfree g).mp g2
    have hv : ∀ c, frs s a (b + 1) ≤ c → sol k1 (fun i => tr (frs s a (b + 1)) f (M1 i)) (fun r => (ld r).toNat) g c = 0 := fun c hc => by
      rw [sol_free (fre_t.mpr fun r hr e => by have := (hK r hr).1; dsimp only at this e; omega)]
      exact if_neg (by omega)
    have h9 := (hsol (sol k1 (fun i => tr (frs s a (b + 1)) f (M1 i)) (fun r => (ld r).toNat) g)).mp ((hK.sols h01 _ hv).mpr (Spn.one (x := fun g => sol k1 (fun i => tr (frs s a (b + 1)) f (M1 i)) (fun r => (ld r).toNat) g) g1 gf))
    refine ⟨_, h9, fun z => ?_⟩
    by_cases hz : z < s a
    · rw [tr_lt hz, if_pos hz, g3 z hz, vvS_K hf h01 hK hl g1 gf, h0, Nat.zero_add]
    · rw [tr_ge (by omega), if_neg hz]
  · intro Y hY
    have hfr : ∀ k, a ≤ k → k ≤ b → frs s a (k + 1) = frs s a k + s k := fun k hk _ => frs_s hk
    have hsec : Sec f T Lf s l a b (fun k i => if i < s k then flE (frs s a) s a b Y (frs s a k + i) else 0) := by
      have e : ∀ k i, a ≤ k → k ≤ b → (if i < s k then flE (frs s a) s a b Y (frs s a k + i) else 0) = Y k i := fun k i h1 h2 => by
        by_cases l : i < s k
        · rw [if_pos l, flE_at hfr Y h1 h2 l]
        · rw [if_neg l, hY.1 k i h1 h2 (by omega)]
      refine ⟨fun k i h1 h2 hi => if_neg (by omega), fun k i h1 h2 => ?_⟩
      have hso : a ≤ so Lf k ∧ so Lf k ≤ b := by rcases so_ta (Lf := Lf) (k := k) with ⟨_, e, _⟩ | ⟨_, e, _⟩ <;> omega
      have hta : a ≤ ta Lf k ∧ ta Lf k ≤ b := by rcases so_ta (Lf := Lf) (k := k) with ⟨_, _, e⟩ | ⟨_, _, e⟩ <;> omega
      dsimp only
      rw [Fk_cg (v := Y (so Lf k)) (fun i => e _ i hso.1 hso.2), e _ i hta.1 hta.2]
      exact hY.2 k i h1 h2
    obtain ⟨c, c1, c2⟩ := (hK.sols h01 _ (fun c hc => flE_out hfr Y hc)).mp ((hsol _).mpr hsec)
    have hsp : Spn (frs s a (b + 1)) (fun g => fre (fun r => (ld r).toNat) k1 g = true) (fun g z => if z < s a then sol k1 (fun i => tr (frs s a (b + 1)) f (M1 i)) (fun r => (ld r).toNat) g z else 0) (Y a) := by
      refine ⟨c, c1, fun z => ?_⟩
      by_cases hz : z < s a
      · have e9 := flE_at hfr Y (Nat.le_refl a) hab hz
        rw [h0, Nat.zero_add] at e9
        have c3 := c2 z
        dsimp only at c3
        rw [c3] at e9
        rw [← e9]
        exact su_cg _ (fun g _ => by dsimp only; rw [if_pos hz])
      · rw [hY.1 a z (Nat.le_refl _) hab (by omega)]
        exact (su_z _ (fun g _ => by dsimp only; rw [if_neg hz]; grind)).symm
    refine Spn.le (fun g hg gf => ?_) hsp
    obtain ⟨t, t1, t2⟩ := hQ2 g hg ((hfree g).mpr gf)
    refine (Spn.one t1 trivial).cg (fun z => ?_)
    by_cases hz : z < s a
    · rw [if_pos hz, tr_lt hz, t2 z hz, vvS_K hf h01 hK hl hg gf]
    · rw [if_neg hz, tr_ge (by omega)]

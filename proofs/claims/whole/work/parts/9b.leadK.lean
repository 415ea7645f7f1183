/-! the class's rows, in the field -/
theorem Sp_K {K : Type} [Lean.Grind.CommRing K] {p : Nat} {f : Int → K} (hf : Iot p f) {c w : Nat} {M : Nat → Nat → Int} {v : Nat → Int} : Sp p c w M v ↔ Spn c (fun _ => True) (fun r => tr w f (M r)) (tr w f v) := by
  constructor
  · rintro ⟨a, ha⟩
    refine ⟨fun r => f (a r), fun r q => absurd trivial q, fun i => ?_⟩
    by_cases hi : i < w
    · rw [tr_lt hi, hf.eq.mpr (ha i hi), hf.sm]
      exact su_cg c (fun r _ => by dsimp only; rw [hf.2.1, tr_lt hi])
    · rw [tr_ge (by omega)]
      exact (su_z c (fun r _ => by dsimp only; rw [tr_ge (by omega)]; grind)).symm
  · rintro ⟨c', -, hc⟩
    have hch : ∃ a : Nat → Int, ∀ r, f (a r) = c' r := ⟨fun r => Classical.choose (hf.2.2.2.2 (c' r)), fun r => Classical.choose_spec (hf.2.2.2.2 (c' r))⟩
    obtain ⟨a, ha⟩ := hch
    refine ⟨a, fun j hj => ?_⟩
    rw [← hf.eq, hf.sm]
    have := hc j
    rw [tr_lt hj] at this
    rw [this]
    exact su_cg c (fun r _ => by dsimp only; rw [hf.2.1, tr_lt hj, ha r])
theorem Sp_iff {K : Type} [Lean.Grind.CommRing K] {p : Nat} {f : Int → K} (hf : Iot p f) {k c w : Nat} {M1 M : Nat → Nat → Int} (h : ∀ v, Sp p k w M1 v ↔ Sp p c w M v) (v : Nat → K) : Spn k (fun _ => True) (fun r => tr w f (M1 r)) v ↔ Spn c (fun _ => True) (fun r => tr w f (M r)) v := by
  constructor
  · exact fun q => Spn.le (fun r hr _ => (Sp_K hf).mp ((h _).mp (Sp.row hr))) q
  · exact fun q => Spn.le (fun r hr _ => (Sp_K hf).mp ((h _).mpr (Sp.row hr))) q
theorem Rf.toRK {K : Type} [Lean.Grind.CommRing K] {p : Nat} {f : Int → K} (hf : Iot p f) {w k : Nat} {M : Nat → Nat → Int} {hd : Nat → Int} (h : Rf w k M hd) : ∃ H : Nat → Nat, RK w k (fun r => tr w f (M r)) H ∧ (∀ r, r < k → H r < w ∧ hd (H r) = (r : Int)) ∧ ∀ g, g < w → (fre H k g = true ↔ hd g = -1) := by
  obtain ⟨H, hH⟩ := h.exH
  refine ⟨H, fun r hr => ?_, hH, fun g hg => ?_⟩
  · obtain ⟨a1, a2⟩ := hH r hr
    obtain ⟨b1, b2, -⟩ := h.2.2.2.2.1 (H r) r a1 a2
    dsimp only
    exact ⟨a1, by rw [tr_lt a1, b1]; exact hf.2.2.1, fun i hi hne => by rw [tr_lt a1, b2 i hi hne]; exact hf.zero⟩
  · rw [fre_t]
    constructor
    · intro q
      rcases h.2.1 g hg with e | ⟨r, hr, e⟩
      · exact e
      · exact absurd (h.inj (hH r hr).1 hg (hH r hr).2 e) (q r hr)
    · intro q r hr e
      have := (hH r hr).2
      rw [e, q] at this
      omega
theorem rst_sol {K : Type} [Lean.Grind.CommRing K] {p : Nat} {f : Int → K} (hf : Iot p f) {w k : Nat} {M : Nat → Nat → Int} {hd : Nat → Int} (h : Rf w k M hd) {H : Nat → Nat} (hH : ∀ r, r < k → H r < w ∧ hd (H r) = (r : Int)) {g : Nat} (hg : g < w) (hgf : hd g = -1) {z : Nat} (hz : z < w) : f (rst p M hd z g) = sol k (fun r => tr w f (M r)) H g z := by
  have e := rst_cg (p := p) (M := M) (i := z) hgf
  rw [hf.eq.mpr e, hf.sub]
  unfold sol e1
  have h1 : f (if z = g then 1 else 0) = if z = g then 1 else 0 := by
    by_cases q : z = g
    · rw [if_pos q, if_pos q]; exact hf.2.2.1
    · rw [if_neg q, if_neg q]; exact hf.zero
  rw [h1]
  congr 1
  rcases h.2.1 z hz with q | ⟨r, hr, q⟩
  · rw [if_pos q, hf.zero, su_z k (fun r hr => if_neg (fun e2 => by have := (hH r hr).2; rw [e2, q] at this; omega))]
  · have hHr : H r = z := h.inj (hH r hr).1 hz (hH r hr).2 q
    rw [if_neg (by omega), q, Int.toNat_natCast, su_one hr _ (fun r' hr' hne => if_neg (fun e2 => by have := (hH r' hr').2; rw [e2, q] at this; omega)), if_pos hHr]
    exact (tr_lt hg).symm
/-- the rows at b make the space V -/
def RwK {K : Type} [Lean.Grind.CommRing K] (f : Int → K) (h : HP) (b p c w : Nat) (V : (Nat → K) → Prop) : Prop := ∃ M hd, RowsA h b p M hd c w ∧ inP M p ∧ Rf w c M hd ∧ c ≤ 4 ∧ ∀ v, Spn c (fun _ => True) (fun r => tr w f (M r)) v ↔ V v
theorem RwK.keep {K : Type} [Lean.Grind.CommRing K] {f : Int → K} {h h' : HP} {b p c w : Nat} {V : (Nat → K) → Prop} (r : RwK f h b p c w V) (e : ∀ x, b ≤ x → x ≤ b + 6 → h' x = h x) : RwK f h' b p c w V := by
  obtain ⟨M, hd, a1, a2⟩ := r
  exact ⟨M, hd, a1.keep e, a2⟩
theorem lead_right {K : Type} [Lean.Grind.CommRing K] {p : Nat} {f : Int → K} (hf : Iot p f) {n : Nat → Int} {Lf : Nat → Bool} {s : Nat → Nat} {k c : Nat} (hl : Lf k = false) (hs : s k ≤ 4) {M M3 : Nat → Nat → Int} (e3 : ∀ x z, x < c → z < s (k + 1) → M3 x z = (sm (s k) (fun i => n (k * 16 + z * 4 + i) * M x i)) % p) {V : (Nat → K) → Prop} (hV : ∀ v, Spn c (fun _ => True) (fun r => tr (s k) f (M r)) v ↔ V v) (v : Nat → K) : Spn c (fun _ => True) (fun r => tr (s (k + 1)) f (M3 r)) v ↔ Ldv 4 s Lf (TK f n Lf s 0) k V v := by
  have hso : so Lf k = k := by unfold so; rw [hl]; rfl
  have hta : ta Lf k = k + 1 := by unfold ta; rw [hl]; rfl
  have hrow : ∀ r, r < c → ∀ z, tr (s (k + 1)) f (M3 r) z = Fk 4 (TK f n Lf s 0) k (tr (s k) f (M r)) z := fun r hr z => by
    by_cases hz : z < s (k + 1)
    · rw [tr_lt hz, e3 r z hr hz, hf.mod, hf.sm, FkT (by rw [hso]; exact hs) (by rw [hta]; exact hz), hso]
      exact su_cg _ (fun i hi => by rw [hf.2.1, tr_lt hi, Nat.zero_mul, Nat.zero_add])
    · rw [tr_ge (by omega), FkT0 (by rw [hta]; omega)]
  unfold Ldv
  rw [hl, if_neg (by decide)]
  constructor
  · rintro ⟨a, a1, a2⟩
    refine ⟨fun i => su c (fun r => a r * tr (s k) f (M r) i), (hV _).mp ⟨a, a1, fun i => rfl⟩, fun i => ?_⟩
    rw [a2 i, Fk_su]
    exact su_cg c (fun r hr => by dsimp only; rw [hrow r hr])
  · rintro ⟨u, hu, e⟩
    obtain ⟨a, a1, a2⟩ := (hV u).mpr hu
    refine ⟨a, a1, fun i => ?_⟩
    rw [e i, Fk_cg a2, Fk_su]
    exact su_cg c (fun r hr => by dsimp only; rw [hrow r hr])
theorem lead_left {K : Type} [Lean.Grind.CommRing K] {p : Nat} {f : Int → K} (hf : Iot p f) (hP : isP p) {n : Nat → Int} {Lf : Nat → Bool} {s : Nat → Nat} {k c : Nat} (hl : Lf k = true) (hs : s (k + 1) ≤ 4) {M : Nat → Nat → Int} {hd : Nat → Int} (hR : Rf (s k) c M hd) {V : (Nat → K) → Prop} (hV : ∀ v, Spn c (fun _ => True) (fun r => tr (s k) f (M r)) v ↔ V v)
    {Mc : Nat → Nat → Int} (ec : ∀ g, g < s k → hd g = -1 → ∀ z, z < s (k + 1) → Mc (nf hd g) z = (sm (s k) (fun i => rst p M hd i g * n (k * 16 + i * 4 + z))) % p)
    {c2 : Nat} {M2 : Nat → Nat → Int} {hd2 : Nat → Int} (hR2 : Rf (s (k + 1)) c2 M2 hd2) (hS2 : ∀ v, Sp p c2 (s (k + 1)) M2 v ↔ Sp p (s k - c) (s (k + 1)) Mc v)
    {M3 : Nat → Nat → Int} (e3 : ∀ g, g < s (k + 1) → hd2 g = -1 → ∀ z, z < s (k + 1) → M3 (nf hd2 g) z = rst p M2 hd2 z g) (v : Nat → K) : Spn (s (k + 1) - c2) (fun _ => True) (fun r => tr (s (k + 1)) f (M3 r)) v ↔ Ldv 4 s Lf (TK f n Lf s 0) k V v := by
  have h01 := hf.ne hP.le.1
  have hso : so Lf k = k + 1 := by unfold so; rw [hl]; rfl
  have hta : ta Lf k = k := by unfold ta; rw [hl]; rfl
  obtain ⟨H2, rk2, hH2, hfr2⟩ := hR2.toRK hf
  have hfree1 := hR.free
  have hfree2 := hR2.free
  -- conditions are met just when the arrow leads into the space
  have hcond : ∀ v : Nat → K, (∀ i, s (k + 1) ≤ i → v i = 0) → ((∀ j, j < s k - c → su (s (k + 1)) (fun z => tr (s (k + 1)) f (Mc j) z * v z) = 0) ↔ V (Fk 4 (TK f n Lf s 0) k v)) := fun v hv => by
    have hch : ∃ u : Nat → Int, ∀ i, f (u i) = Fk 4 (TK f n Lf s 0) k v i := ⟨fun i => Classical.choose (hf.2.2.2.2 _), fun i => Classical.choose_spec (hf.2.2.2.2 (Fk 4 (TK f n Lf s 0) k v i))⟩
    obtain ⟨u, hu⟩ := hch
    have hut : ∀ i, tr (s k) f u i = Fk 4 (TK f n Lf s 0) k v i := fun i => by
      by_cases hi : i < s k
      · rw [tr_lt hi, hu]
      · rw [tr_ge (by omega), FkT0 (by rw [hta]; omega)]
    have hVu : V (Fk 4 (TK f n Lf s 0) k v) ↔ ∀ g, g < s k → hd g = -1 → su (s k) (fun i => f (rst p M hd i g) * Fk 4 (TK f n Lf s 0) k v i) = 0 := by
      rw [← hV, show Fk 4 (TK f n Lf s 0) k v = tr (s k) f u from funext fun i => (hut i).symm, ← Sp_K hf, hR.memR]
      constructor
      · intro q g hg hgf
        have := (hf.2.2.2.1 _).mpr (q g hg hgf)
        rw [hf.sm] at this
        rw [← this]
        exact su_cg _ (fun i hi => by rw [tr_lt hi, hf.2.1])
      · intro q g hg hgf
        rw [← hf.2.2.2.1, hf.sm, ← q g hg hgf]
        exact su_cg _ (fun i hi => by rw [tr_lt hi, hf.2.1])
    have hdot : ∀ g, g < s k → hd g = -1 → su (s (k + 1)) (fun z => tr (s (k + 1)) f (Mc (nf hd g)) z * v z) = su (s k) (fun i => f (rst p M hd i g) * Fk 4 (TK f n Lf s 0) k v i) := fun g hg hgf => by
      rw [su_cg (s (k + 1)) (g := fun z => su (s k) (fun i => f (rst p M hd i g) * (f (n (k * 16 + i * 4 + z)) * v z))) (fun z hz => by
        rw [tr_lt hz, ec g hg hgf z hz, hf.mod, hf.sm, ← su_mulr]
        exact su_cg _ (fun i _ => by rw [hf.2.1]; grind)), su_swap]
      refine su_cg _ (fun i hi => ?_)
      rw [su_mul, FkT (by rw [hso]; exact hs) (by rw [hta]; exact hi), hso]
      congr 1
      exact su_cg _ (fun z _ => by rw [Nat.zero_mul, Nat.zero_add])
    rw [hVu]
    constructor
    · intro q g hg hgf
      rw [← hdot g hg hgf]
      refine q _ ?_
      have := nf_mono hd (show g + 1 ≤ s k by omega)
      rw [nf_t hgf] at this
      omega
    · intro q j hj
      obtain ⟨g, g1, g2, g3⟩ := nf_ex hd (s k) j (by omega)
      rw [← g3, hdot g g1 g2]
      exact q g g1 g2
  have hsp := Sp_iff hf hS2
  have hmid : ∀ v : Nat → K, (∀ r, r < c2 → su (s (k + 1)) (fun z => tr (s (k + 1)) f (M2 r) z * v z) = 0) ↔ ∀ j, j < s k - c → su (s (k + 1)) (fun z => tr (s (k + 1)) f (Mc j) z * v z) = 0 := fun v =>
    ⟨fun h => sol_le (fun j hj => (hsp _).mpr (Spn.one hj trivial)) h, fun h => sol_le (fun j hj => (hsp _).mp (Spn.one hj trivial)) h⟩
  have hrow : ∀ g, g < s (k + 1) → hd2 g = -1 → ∀ z, tr (s (k + 1)) f (M3 (nf hd2 g)) z = sol c2 (fun r => tr (s (k + 1)) f (M2 r)) H2 g z := fun g hg hgf z => by
    by_cases hz : z < s (k + 1)
    · rw [tr_lt hz, e3 g hg hgf z hz, rst_sol hf hR2 hH2 hg hgf hz]
    · rw [tr_ge (by omega), sol_free (fre_t.mpr fun r hr e => by have := (hH2 r hr).1; omega)]
      exact (if_neg (by omega)).symm
  have hspan : Spn (s (k + 1) - c2) (fun _ => True) (fun r => tr (s (k + 1)) f (M3 r)) v ↔ Spn (s (k + 1)) (fun g => fre H2 c2 g = true) (fun g => sol c2 (fun r => tr (s (k + 1)) f (M2 r)) H2 g) v := by
    constructor
    · refine fun q => Spn.le (fun j hj _ => ?_) q
      obtain ⟨g, g1, g2, g3⟩ := nf_ex hd2 (s (k + 1)) j (by omega)
      refine (Spn.one (x := fun g => sol c2 (fun r => tr (s (k + 1)) f (M2 r)) H2 g) g1 ((hfr2 g g1).mpr g2)).cg (fun z => ?_)
      rw [← g3]
      exact hrow g g1 g2 z
    · refine fun q => Spn.le (fun g hg hgf => ?_) q
      have hgf' := (hfr2 g hg).mp hgf
      have hlt : nf hd2 g < s (k + 1) - c2 := by
        have := nf_mono hd2 (show g + 1 ≤ s (k + 1) by omega)
        rw [nf_t hgf'] at this
        omega
      exact (Spn.one (x := fun r => tr (s (k + 1)) f (M3 r)) hlt trivial).cg (fun z => (hrow g hg hgf' z).symm)
  rw [hspan]
  unfold Ldv
  rw [if_pos hl]
  constructor
  · intro q
    have hv : ∀ i, s (k + 1) ≤ i → v i = 0 := fun i hi => by
      obtain ⟨a, a1, a2⟩ := q
      rw [a2 i]
      refine su_z _ (fun g hg => ?_)
      dsimp only
      rw [sol_free (fre_t.mpr fun r hr e => by have := (hH2 r hr).1; omega)]
      have : (e1 g : Nat → K) i = 0 := if_neg (by omega)
      rw [this]; grind
    exact ⟨hv, (hcond v hv).mp ((hmid v).mp ((rk2.sols h01 v hv).mpr q))⟩
  · rintro ⟨hv, q⟩
    exact (rk2.sols h01 v hv).mp ((hmid v).mpr ((hcond v hv).mpr q))

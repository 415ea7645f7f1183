/-! whole numbers modulo p, in a field -/
def Iot {K : Type} [Lean.Grind.CommRing K] (p : Nat) (f : Int → K) : Prop := (∀ a b, f (a + b) = f a + f b) ∧ (∀ a b, f (a * b) = f a * f b) ∧ f 1 = 1 ∧ (∀ a, f a = 0 ↔ (p : Int) ∣ a) ∧ ∀ y, ∃ a, f a = y
theorem Iot.zero {K : Type} [Lean.Grind.CommRing K] {p : Nat} {f : Int → K} (h : Iot p f) : f 0 = 0 := (h.2.2.2.1 0).mpr (Int.dvd_zero _)
theorem Iot.neg {K : Type} [Lean.Grind.CommRing K] {p : Nat} {f : Int → K} (h : Iot p f) (a : Int) : f (-a) = - f a := by
  have := h.1 (-a) a
  rw [show -a + a = 0 by omega, h.zero] at this
  grind
theorem Iot.sub {K : Type} [Lean.Grind.CommRing K] {p : Nat} {f : Int → K} (h : Iot p f) (a b : Int) : f (a - b) = f a - f b := by
  rw [show a - b = a + -b by omega, h.1, h.neg]; grind
theorem Iot.eq {K : Type} [Lean.Grind.CommRing K] {p : Nat} {f : Int → K} (h : Iot p f) {a b : Int} : f a = f b ↔ (p : Int) ∣ a - b := by
  rw [← h.2.2.2.1, h.sub]
  constructor
  · intro e; rw [e]; grind
  · intro e; grind
theorem Iot.mod {K : Type} [Lean.Grind.CommRing K] {p : Nat} {f : Int → K} (h : Iot p f) (a : Int) : f (a % p) = f a := by
  rw [h.eq]
  have := Int.dvd_neg.mpr (emod_dvd a p)
  rwa [show -(a - a % p) = a % p - a by omega] at this
theorem Iot.inj {K : Type} [Lean.Grind.CommRing K] {p : Nat} {f : Int → K} (h : Iot p f) {a b : Int} (ha : 0 ≤ a ∧ a < p) (hb : 0 ≤ b ∧ b < p) (e : f a = f b) : a = b := by
  have := Int.emod_eq_emod_iff_emod_sub_eq_zero.mpr (Int.emod_eq_zero_of_dvd (h.eq.mp e))
  rwa [Int.emod_eq_of_lt ha.1 ha.2, Int.emod_eq_of_lt hb.1 hb.2] at this
theorem Iot.ne {K : Type} [Lean.Grind.CommRing K] {p : Nat} {f : Int → K} (h : Iot p f) (hp : 2 ≤ p) : (1 : K) ≠ 0 := by
  intro e
  rw [← h.2.2.1, h.2.2.2.1] at e
  have := Int.emod_eq_zero_of_dvd e
  rw [Int.emod_eq_of_lt (by omega) (by omega)] at this
  omega
theorem Iot.inv {K : Type} [Lean.Grind.CommRing K] {p : Nat} {f : Int → K} (h : Iot p f) (hP : isP p) : ∀ x : K, x ≠ 0 → ∃ y, x * y = 1 := by
  intro x hx
  obtain ⟨a, rfl⟩ := h.2.2.2.2 x
  have hpl := hP.le
  have hr := emod_rg (x := a) (p := p) (by omega)
  have h0 : a % p ≠ 0 := fun e => hx (by rw [← h.mod a, e]; exact h.zero)
  obtain ⟨z, -, -, hz⟩ := inv_exI hP (show 0 < a % p by omega) hr.2
  refine ⟨f z, ?_⟩
  rw [← h.mod a, ← h.2.1, Int.mul_comm, ← h.mod, hz]
  exact h.2.2.1
theorem Iot.sm {K : Type} [Lean.Grind.CommRing K] {p : Nat} {f : Int → K} (h : Iot p f) (g : Nat → Int) : ∀ n, f (sm n g) = su n (fun i => f (g i))
  | 0 => h.zero
  | n + 1 => by rw [sm_s, h.1, h.sm g n, su_s]
/-- the field with p numbers -/
def io (p : Nat) (a : Int) : Fin (p - 1 + 1) := @Int.cast (Fin (p - 1 + 1)) Lean.Grind.Ring.intCast a
theorem io_iot {p : Nat} (hp : 2 ≤ p) : Iot p (io p) := by
  have hch : ∀ a : Int, io p a = 0 ↔ (p : Int) ∣ a := fun a => by
    unfold io
    rw [Lean.Grind.IsCharP.intCast_eq_zero_iff (α := Fin (p - 1 + 1)) (p - 1 + 1)]
    rw [show (((p - 1 + 1 : Nat) : Nat) : Int) = (p : Int) by omega]
    exact ⟨fun h => Int.dvd_of_emod_eq_zero h, fun h => Int.emod_eq_zero_of_dvd h⟩
  refine ⟨fun a b => Lean.Grind.Ring.intCast_add (α := Fin (p - 1 + 1)) a b, fun a b => Lean.Grind.Ring.intCast_mul (α := Fin (p - 1 + 1)) a b, Lean.Grind.Ring.intCast_one (α := Fin (p - 1 + 1)), hch, fun y => ⟨(y.val : Int), ?_⟩⟩
  unfold io
  rw [Lean.Grind.Ring.intCast_natCast]
  exact Fin.ext (Nat.mod_eq_of_lt y.isLt)
def tr {K : Type} [Lean.Grind.CommRing K] (w : Nat) (f : Int → K) (v : Nat → Int) : Nat → K := fun i => if i < w then f (v i) else 0
theorem tr_lt {K : Type} [Lean.Grind.CommRing K] {w : Nat} {f : Int → K} {v : Nat → Int} {i : Nat} (h : i < w) : tr w f v i = f (v i) := if_pos h
theorem tr_ge {K : Type} [Lean.Grind.CommRing K] {w : Nat} {f : Int → K} {v : Nat → Int} {i : Nat} (h : w ≤ i) : tr w f v i = 0 := if_neg (by omega)
/-! the model's elimination -/
def Lds (k w m : Nat) (M : Nat → Nat → Int) (ld : Nat → Int) : Prop := ∀ r, r < k → 0 ≤ ld r ∧ ld r < w ∧ M r (ld r).toNat = 1 ∧ (∀ i, i < m → i ≠ r → M i (ld r).toNat = 0) ∧ ∀ j : Nat, (j : Int) < ld r → M r j = 0
def Jm {K : Type} [Lean.Grind.CommRing K] (f : Int → K) (w m : Nat) (M0 : Nat → Nat → Int) (c k : Nat) (M : Nat → Nat → Int) (ld : Nat → Int) : Prop :=
  k ≤ m ∧ Lds k c m M ld ∧ (∀ i j, k ≤ i → i < m → j < c → M i j = 0) ∧ (∀ r r', r < r' → r' < k → ld r < ld r') ∧ ∀ v, Spn m (fun _ => True) (fun i => tr w f (M i)) v ↔ Spn m (fun _ => True) (fun i => tr w f (M0 i)) v
theorem Jm.skip {K : Type} [Lean.Grind.CommRing K] {f : Int → K} {w m c k : Nat} {M0 M : Nat → Nat → Int} {ld : Nat → Int} (h : Jm f w m M0 c k M ld) (hz : ∀ i, k ≤ i → i < m → M i c = 0) : Jm f w m M0 (c + 1) k M ld := by
  obtain ⟨h1, h2, h3, h4, h5⟩ := h
  refine ⟨h1, fun r hr => ?_, fun i j hi hm hj => ?_, h4, h5⟩
  · obtain ⟨a1, a2, a3⟩ := h2 r hr
    exact ⟨a1, by omega, a3⟩
  · by_cases e : j = c
    · rw [e]; exact hz i hi hm
    · exact h3 i j hi hm (by omega)
theorem Jm.piv {K : Type} [Lean.Grind.CommRing K] {p : Nat} {f : Int → K} (hf : Iot p f) (hp2 : 2 ≤ p) {w m c k : Nat} {M0 M : Nat → Nat → Int} {ld : Nat → Int} (h : Jm f w m M0 c k M ld) {q x : Nat} (hcw : c < w) (hkq : k ≤ q) (hqm : q < m) (hx : ((x : Int) * M q c) % p = 1) : Jm f w m M0 (c + 1) (k + 1) (elq p w m M q k x c) (up ld k (c : Int)) := by
  obtain ⟨h1, h2, h3, h4, h5⟩ := h
  have hkm : k < m := by omega
  have hk : ∀ j, j < w → elq p w m M q k x c k j = (M q j * x) % p := fun j hj => by
    unfold elq clq
    rw [if_neg (fun z => z.2.1 rfl)]
    unfold scq
    rw [if_pos ⟨rfl, hj⟩]
    unfold swp
    by_cases e : k = q
    · rw [if_pos e, e]
    · rw [if_neg e, if_pos rfl]
  have hi : ∀ i j, i < m → i ≠ k → j < w → elq p w m M q k x c i j = if swp M q k i c ≠ 0 then (swp M q k i j - swp M q k i c * elq p w m M q k x c k j) % p else swp M q k i j := fun i j him hik hj => by
    have hs : ∀ z, scq p w (swp M q k) k x i z = swp M q k i z := fun z => by unfold scq; rw [if_neg (fun y => hik y.1)]
    have hkk : elq p w m M q k x c k j = scq p w (swp M q k) k x k j := by unfold elq clq; rw [if_neg (fun z => z.2.1 rfl)]
    rw [hkk]
    unfold elq clq
    rw [hs, hs]
    by_cases e : swp M q k i c ≠ 0
    · rw [if_pos ⟨him, hik, e, hj⟩, if_pos e]
    · rw [if_neg (fun z => e z.2.2.1), if_neg e]
  have hkc : elq p w m M q k x c k c = 1 := by rw [hk c hcw, Int.mul_comm]; exact hx
  have hklo : ∀ j, j < c → elq p w m M q k x c k j = 0 := fun j hj => by
    rw [hk j (by omega), h3 q j hkq hqm hj, Int.zero_mul, Int.zero_emod]
  have hic : ∀ i, i < m → i ≠ k → elq p w m M q k x c i c = 0 := fun i him hik => by
    rw [hi i c him hik hcw, hkc, Int.mul_one, Int.sub_self, Int.zero_emod]
    by_cases e : swp M q k i c ≠ 0
    · rw [if_pos e]
    · rw [if_neg e]; exact Classical.byContradiction fun z => e z
  have hilo : ∀ i j, i < m → i ≠ k → j < c → swp M q k i j = 0 → elq p w m M q k x c i j = 0 := fun i j him hik hj e0 => by
    rw [hi i j him hik (by omega), e0, hklo j hj, Int.mul_zero, Int.sub_self, Int.zero_emod]
    by_cases e : swp M q k i c ≠ 0
    · rw [if_pos e]
    · rw [if_neg e]
  have hslo : ∀ i, i < k → swp M q k i = M i := fun i hi9 => by
    unfold swp
    rw [if_neg (by omega), if_neg (by omega)]
  have hshi : ∀ i j, k ≤ i → i < m → j < c → swp M q k i j = 0 := fun i j hi9 him hj => by
    unfold swp
    split
    · exact h3 k j (Nat.le_refl _) hkm hj
    · split
      · exact h3 q j hkq hqm hj
      · exact h3 i j hi9 him hj
  have hK : ∀ i j, i < m → i ≠ k → j < w → f (elq p w m M q k x c i j) = f (swp M q k i j) - f (swp M q k i c) * f (elq p w m M q k x c k j) := fun i j him hik hj => by
    rw [hi i j him hik hj]
    by_cases e : swp M q k i c ≠ 0
    · rw [if_pos e, hf.mod, hf.sub, hf.2.1]
    · rw [if_neg e, Classical.byContradiction e, hf.zero]; grind
  have hKk : ∀ j, j < w → f (elq p w m M q k x c k j) = f (M q j) * f x := fun j hj => by
    rw [hk j hj, hf.mod, hf.2.1]
  have hfx : f x * f (M q c) = 1 := by rw [← hf.2.1, ← hf.mod, hx]; exact hf.2.2.1
  refine ⟨by omega, fun r hr => ?_, fun i j hki him hj => ?_, fun r r' hrr hr => ?_, fun v => Iff.trans ?_ (h5 v)⟩
  · by_cases e : r = k
    · subst e
      rw [up_s, Int.toNat_natCast]
      exact ⟨by omega, by omega, hkc, fun i him hne => hic i him hne, fun j hj => hklo j (by omega)⟩
    · rw [up_n _ _ e]
      have hrk : r < k := by omega
      obtain ⟨a1, a2, a3, a4, a5⟩ := h2 r hrk
      have hlt : (ld r).toNat < c := by omega
      refine ⟨a1, by omega, ?_, fun i him hne => ?_, fun j hj => ?_⟩
      · rw [hi r _ (by omega) e (by omega), hklo _ hlt, Int.mul_zero, Int.sub_zero, hslo r hrk, a3]
        by_cases z : M r c ≠ 0
        · rw [if_pos z, Int.emod_eq_of_lt (by omega) (by omega)]
        · rw [if_neg z]
      · by_cases z : i = k
        · rw [z]; exact hklo _ hlt
        · refine hilo i _ him z hlt ?_
          by_cases y : i < k
          · rw [hslo i y]; exact a4 i him hne
          · exact hshi i _ (by omega) him hlt
      · refine hilo r j (by omega) e (by omega) ?_
        rw [hslo r hrk]; exact a5 j hj
  · by_cases e : j = c
    · rw [e]; exact hic i him (by omega)
    · exact hilo i j him (by omega) (by omega) (hshi i j (by omega) him (by omega))
  · by_cases e : r' = k
    · subst e
      rw [up_s, up_n _ _ (by omega)]
      exact (h2 r hrr).2.1
    · rw [up_n _ _ e, up_n _ _ (by omega)]
      exact h4 r r' hrr (by omega)
  · constructor
    · intro hv
      refine Spn.le (fun i him _ => ?_) hv
      have hNk : Spn m (fun _ => True) (fun i => tr w f (M i)) (tr w f (elq p w m M q k x c k)) := by
        refine (Spn.lin Spn.zero (Spn.one hqm trivial) (f x)).cg (fun j => ?_)
        by_cases l : j < w
        · rw [tr_lt l, tr_lt l, hKk j l]; grind
        · rw [tr_ge (by omega), tr_ge (by omega)]; grind
      by_cases hik : i = k
      · rw [hik]; exact hNk
      · have hS : Spn m (fun _ => True) (fun i => tr w f (M i)) (tr w f (swp M q k i)) := by
          unfold swp
          split
          · exact Spn.one hkm trivial
          · exact Spn.one him trivial
        refine (hS.lin hNk (-(f (swp M q k i c)))).cg (fun j => ?_)
        by_cases l : j < w
        · rw [tr_lt l, tr_lt l, tr_lt l, hK i j him hik l]; grind
        · rw [tr_ge (by omega), tr_ge (by omega), tr_ge (by omega)]; grind
    · intro hv
      refine Spn.le (fun i him _ => ?_) hv
      have hMq : Spn m (fun _ => True) (fun i => tr w f (elq p w m M q k x c i)) (tr w f (M q)) := by
        refine (Spn.lin Spn.zero (Spn.one hkm trivial) (f (M q c))).cg (fun j => ?_)
        by_cases l : j < w
        · rw [tr_lt l, tr_lt l, hKk j l]; grind
        · rw [tr_ge (by omega), tr_ge (by omega)]; grind
      have hSi : ∀ i, i < m → i ≠ k → Spn m (fun _ => True) (fun i => tr w f (elq p w m M q k x c i)) (tr w f (swp M q k i)) := fun i him hik => by
        refine ((Spn.one him trivial).lin (Spn.one hkm trivial) (f (swp M q k i c))).cg (fun j => ?_)
        by_cases l : j < w
        · rw [tr_lt l, tr_lt l, tr_lt l, hK i j him hik l]; grind
        · rw [tr_ge (by omega), tr_ge (by omega), tr_ge (by omega)]; grind
      by_cases hiq : i = q
      · rw [hiq]; exact hMq
      · by_cases hik : i = k
        · have := hSi q hqm (by omega)
          unfold swp at this
          rw [if_pos rfl] at this
          rw [hik]; exact this
        · have := hSi i him hik
          unfold swp at this
          rw [if_neg hiq, if_neg hik] at this
          exact this
theorem Jm.fin {K : Type} [Lean.Grind.CommRing K] {p : Nat} {f : Int → K} (hf : Iot p f) {w m c k : Nat} {M0 M : Nat → Nat → Int} {ld : Nat → Int} (h : Jm f w m M0 c k M ld) (hcw : c ≤ w) (he : c = w ∨ k = m) : RK w k (fun i => tr w f (M i)) (fun r => (ld r).toNat) ∧ Lds k w k M ld ∧ (∀ r r', r < r' → r' < k → ld r < ld r') ∧ ∀ v, Spn k (fun _ => True) (fun i => tr w f (M i)) v ↔ Spn m (fun _ => True) (fun i => tr w f (M0 i)) v := by
  obtain ⟨h1, h2, h3, h4, h5⟩ := h
  refine ⟨fun r hr => ?_, fun r hr => ?_, h4, fun v => Iff.trans ?_ (h5 v)⟩
  · obtain ⟨a1, a2, a3, a4, a5⟩ := h2 r hr
    dsimp only
    refine ⟨by omega, by rw [tr_lt (by omega), a3]; exact hf.2.2.1, fun i hi hne => by rw [tr_lt (by omega), a4 i (by omega) hne]; exact hf.zero⟩
  · obtain ⟨a1, a2, a3, a4, a5⟩ := h2 r hr
    exact ⟨a1, by omega, a3, fun i hi hne => a4 i (by omega) hne, a5⟩
  · constructor
    · intro hv
      exact Spn.le (fun i hi _ => Spn.one (by omega) trivial) hv
    · intro hv
      refine Spn.le (fun i hi _ => ?_) hv
      by_cases l : i < k
      · exact Spn.one l trivial
      · refine Spn.zero.cg (fun j => ?_)
        by_cases q : j < w
        · rw [tr_lt q, h3 i j (by omega) hi (by omega)]; exact hf.zero
        · exact tr_ge (by omega)
theorem m_reduceK {K : Type} [Lean.Grind.CommRing K] {f : Int → K} {G : GL} {d : Nat} {hp : HP} {sz : Nat} {p N : Nat} (hf : Iot p f) (C : ModA hp p N) (hz : 615 ≤ sz) (hN : 1 ≤ N ∧ N ≤ 8) (hP : isP p) {M : Nat → Nat → Int} {ld : Nat → Int} {m w : Nat} (Mo : MoA hp M ld m w) (hm : m ≤ 260) (hw : w ≤ 130) (hM : inQ m w M p) : Ct G (d + 1) 0 0 mX7_reduce [vr 92] hp sz (Vs (fun v h => ModA h p N ∧ Fm hp h ∧ ∃ M1 ld1 k1, v = vi (k1 : Nat) ∧ MoA h M1 ld1 k1 w ∧ inQ k1 w M1 p ∧ k1 ≤ m ∧ k1 ≤ w ∧ RK w k1 (fun i => tr w f (M1 i)) (fun r => (ld1 r).toNat) ∧ Lds k1 w k1 M1 ld1 ∧ (∀ r r', r < r' → r' < k1 → ld1 r < ld1 r') ∧ ∀ v, Spn k1 (fun _ => True) (fun i => tr w f (M1 i)) v ↔ Spn m (fun _ => True) (fun i => tr w f (M i)) v) sz) := by
  refine (m_reduce C hz hN hP Mo hm hw hM (fun c k M1 ld1 => c ≤ w ∧ Jm f w m M c k M1 ld1) ?_ ?_ ?_).mono ?_
  · exact ⟨by omega, by omega, fun r hr => absurd hr (Nat.not_lt_zero _), fun i j _ _ hj => absurd hj (Nat.not_lt_zero _), fun r r' _ hr => absurd hr (Nat.not_lt_zero _), fun v => Iff.rfl⟩
  · intro c k M1 ld1 hc hk _ hJ hz0
    exact ⟨by omega, hJ.2.skip hz0⟩
  · intro c k M1 ld1 q x hc hk hM1 hJ hkr hrc _ _ _ hx
    exact ⟨by omega, hJ.2.piv hf hP.le.1 hc hkr hrc hx⟩
  · rintro r h z ⟨v, e1, e2, C1, f1, M1, ld1, k1, c1, e3, m1, q1, j1, e4, e5⟩
    obtain ⟨a1, a2, a3, a4⟩ := j1.2.fin hf j1.1 e4
    exact ⟨v, e1, e2, C1, f1, M1, ld1, k1, e3, m1, fun i j hi hj => q1 i j (by omega) hj, e5, (a1.free (hf.ne hP.le.1)).2, a1, a2, a3, a4⟩

/-! a call on both sides, the rest -/
section
variable {G : GL} {D : Nat} {hp : HP} {sz p N : Nat}
theorem cs_turn (hz : 615 ≤ sz) (I : INV p N hp) {x : Int} (hx : -2147483648 ≤ x ∧ x < 2147483648) {y : Int} (hy : -2147483648 ≤ y ∧ y < 2147483648) {z : Int} (hz1 : -2147483648 ≤ z ∧ z < 2147483648) : CS G D mX6_turn mX7_turn [vr 0, vi x, vi y, vi z] [vr 92, vi x, vi y, vi z] p N hp sz := by
  obtain ⟨hP, hN, S, T, W, Sm, Tm, c, m, hR, hS, hT, hZ⟩ := I
  have hf := io_iot hP.le.1
  refine vs_mono (t_turn6 (d := D + 36) c.1 (by omega) hN hP c.2.1 (hR.inS hS) (hR.inL hT) c.2.2.1 c.2.2.2.1 hx hy hz1) (fun v h q => ?_)
  rcases q with ⟨cd, tu, C', ff, L26, RX⟩ | ⟨nc, e, eh⟩
  · have m' := m.keep (h' := h) (fun x _ _ => ff x (by omega))
    have hw : ∃ w : Int, v = vi w := by
      obtain ⟨M1, hd1, k1, Kf, t1, t2, t3, t4, t5, t6⟩ := id tu
      rcases t6 with ⟨_, e, _⟩ | ⟨_, e, _⟩
      · exact ⟨_, e⟩
      · exact ⟨_, e⟩
    obtain ⟨w, ew⟩ := hw
    refine ⟨w, ew, m'.1.C.1.ob, vs_mono (m_turn (d := D + 37) hf hz hN hP hS hT m'.1 m'.2.1 m'.2.2.1 hx hy hz1) (fun v' h' q => ?_)⟩
    rcases q with ⟨_, tm, fu, nw, a0⟩ | ⟨nc, _⟩
    · obtain ⟨ev, S1, T1, W1, Sm1, Tm1, L1, X1, R1, iS1, iT1, Z1⟩ := turn_rel hf hP hN hR hS hT (by omega) (by omega) (by omega) tu tm hZ cd.2.2.2.2.2.2 rfl
      refine ⟨by rw [← ev, ew], hP, hN, S1, T1, W1, Sm1, Tm1, (c.lys2 C' L1 L26 RX ff).keep (fun x hx => fu x (by omega)), ⟨X1, nw, a0, ?_⟩, R1, iS1, iT1, Z1⟩
      obtain ⟨-, -, -, ⟨col, Ll, c3, c4⟩, ⟨Bg, En, Cn, c5, c6, c7⟩, ⟨pr, td, c8, c9, c10⟩, ⟨r, g, c11⟩, ⟨pa, c12⟩, F, c13⟩ := m'
      exact ⟨⟨col, Ll, (fu _ (by omega)).trans c3, (fu _ (by omega)).trans c4⟩, ⟨Bg, En, Cn, (fu _ (by omega)).trans c5, (fu _ (by omega)).trans c6, (fu _ (by omega)).trans c7⟩, ⟨pr, td, (fu _ (by omega)).trans c8, (fu _ (by omega)).trans c9, c10⟩, ⟨r, g, c11.keep (fun x h1 h2 => fu x (by omega))⟩, ⟨pa, (fu _ (by omega)).trans c12⟩, F, c13.keep (fun x h1 h2 => fu x (by omega))⟩
    · exact absurd cd nc
  · subst eh
    refine ⟨-1, e, m.1.C.1.ob, vs_mono (m_turn (d := D + 37) hf hz hN hP hS hT m.1 m.2.1 m.2.2.1 hx hy hz1) (fun v' h' q => ?_)⟩
    rcases q with ⟨cd, _⟩ | ⟨_, e', eh⟩
    · exact absurd cd nc
    · subst eh
      exact ⟨e', hP, hN, S, T, W, Sm, Tm, c, m, hR, hS, hT, hZ⟩
theorem form_rel {S T : Nat → Nat → Int} {Sm Tm : Nat → Int} {W : Nat → Nat} (hN : 1 ≤ N ∧ N ≤ 8) (hR : RelL S T Sm Tm) {x y : Nat} (hx : x < 8) (hy : y < 8) : (sm N (fun k => S x k * S y k) - sm (N - 1) (fun k => S x (if (W x).testBit k then k + 1 else k) * S y (if (W x).testBit k then k else k + 1))) = sm N (fun k => Sm (8 * x + k) * Sm (8 * y + k)) - sm (N - 1) (fun k => Sm (8 * x + (if (W x).testBit k then k + 1 else k)) * Sm (8 * y + (if (W x).testBit k then k else k + 1))) := by
  rw [sm_cg N (g := fun k => Sm (8 * x + k) * Sm (8 * y + k)) (fun k hk => by rw [hR.1 x k hx (by omega), hR.1 y k hy (by omega)]), sm_cg (N - 1) (g := fun k => Sm (8 * x + (if (W x).testBit k then k + 1 else k)) * Sm (8 * y + (if (W x).testBit k then k else k + 1))) (fun k hk => by rw [hR.1 x _ hx (by split <;> omega), hR.1 y _ hy (by split <;> omega)])]
theorem cs_form (hz : 615 ≤ sz) (I : INV p N hp) {x : Int} (hx : -2147483648 ≤ x ∧ x < 2147483648) {y : Int} (hy : -2147483648 ≤ y ∧ y < 2147483648) : CS G D mX6_form mX7_form [vr 0, vi x, vi y] [vr 92, vi x, vi y] p N hp sz := by
  have I0 := I
  obtain ⟨hP, hN, S, T, W, Sm, Tm, c, m, hR, hS, hT, hZ⟩ := I
  refine vs_mono (rd_vs (t_form6 (d := D + 38) c.1 (by omega) hN c.2.1 hx hy)) (fun r h q => ?_)
  obtain ⟨e, rfl⟩ := q
  refine ⟨_, e, m.1.C.1.ob, vs_mono (rd_vs (m_form (d := D + 38) m.1.C hz hN m.1.D hS hx hy)) (fun v' h' q2 => ?_)⟩
  obtain ⟨e2, rfl⟩ := q2
  refine ⟨?_, I0⟩
  rw [e2]
  congr 1
  split
  · exact (form_rel hN hR (by omega) (by omega)).symm
  · rfl
theorem cs_maps (hz : 615 ≤ sz) (I : INV p N hp) {x : Int} (hx : -2147483648 ≤ x ∧ x < 2147483648) {y : Int} (hy : -2147483648 ≤ y ∧ y < 2147483648) : CS G D mX6_maps mX7_maps [vr 0, vi x, vi y] [vr 92, vi x, vi y] p N hp sz := by
  obtain ⟨hP, hN, S, T, W, Sm, Tm, c, m, hR, hS, hT, hZ⟩ := I
  have hf := io_iot hP.le.1
  obtain ⟨Rb, st, en, xb, B1, B2⟩ := bars_both hf hP hN W hR hS
  refine vs_mono (t_maps6 (d := D + 34) hf c.1 (by omega) hN hP c.2.1 (hR.inS hS) (hR.inL hT) B1 c.2.2.2.2.1 c.2.2.2.2.2.1 c.2.2.2.2.2.2.1 hx hy) (fun v h q => ?_)
  obtain ⟨e, ff, pz, s1, s2⟩ := q
  have c' := c.sp2 ff pz s1 s2
  have m' := m.keep (h' := h) (fun x _ _ => ff x (by omega))
  refine ⟨_, e, m'.1.C.1.ob, vs_mono (m_maps (d := D + 37) hf hz hN hP hS hT B2 m'.1 hx hy) (fun v' h' q => ?_)⟩
  obtain ⟨e', t, ft⟩ := q
  exact ⟨e', hP, hN, S, T, W, Sm, Tm, c'.keep (fun x hx => ft x (by omega) (by omega)), m'.ft t ft, hR, hS, hT, hZ⟩
theorem cs_bends (hz : 615 ≤ sz) (I : INV p N hp) {x : Int} (hx : -2147483648 ≤ x ∧ x < 2147483648) {y : Int} (hy : -2147483648 ≤ y ∧ y < 2147483648) : CS G D mX6_bends mX7_bends [vr 0, vi x, vi y] [vr 92, vi x, vi y] p N hp sz := by
  obtain ⟨hP, hN, S, T, W, Sm, Tm, c, m, hR, hS, hT, hZ⟩ := I
  have hf := io_iot hP.le.1
  obtain ⟨Rb, st, en, xb, B1, B2⟩ := bars_both hf hP hN W hR hS
  refine vs_mono (t_bends6 (d := D + 34) hf c.1 (by omega) hN hP c.2.1 (hR.inS hS) (hR.inL hT) B1 c.2.2.2.2.1 c.2.2.2.2.2.1 c.2.2.2.2.2.2.1 hx hy) (fun v h q => ?_)
  obtain ⟨e, ff, pz, s1, s2⟩ := q
  have c' := c.sp2 ff pz s1 s2
  have m' := m.keep (h' := h) (fun x _ _ => ff x (by omega))
  refine ⟨_, e, m'.1.C.1.ob, vs_mono (m_bends (d := D + 36) hf hz hN hP hS hT B2 m'.1 hx hy) (fun v' h' q => ?_)⟩
  obtain ⟨e', t, ft⟩ := q
  refine ⟨?_, hP, hN, S, T, W, Sm, Tm, c'.keep (fun x hx => ft x (by omega) (by omega)), m'.ft t ft, hR, hS, hT, hZ⟩
  rw [e']
  congr 1
  split
  · rw [form_rel hN hR (by omega) (by omega)]
  · rfl
theorem cs_spans (hz : 615 ≤ sz) (I : INV p N hp) {x : Int} (hx : -2147483648 ≤ x ∧ x < 2147483648) {y : Int} (hy : -2147483648 ≤ y ∧ y < 2147483648) {z : Int} (hz1 : -2147483648 ≤ z ∧ z < 2147483648) : CS G D mX6_spans mX7_spans [vr 0, vi x, vi y, vi z] [vr 92, vi x, vi y, vi z] p N hp sz := by
  obtain ⟨hP, hN, S, T, W, Sm, Tm, c, m, hR, hS, hT, hZ⟩ := I
  have hf := io_iot hP.le.1
  obtain ⟨Rb, st, en, xb, B1, B2⟩ := bars_both hf hP hN W hR hS
  refine vs_mono (t_spans6 (d := D + 34) hf c.1 (by omega) hN hP c.2.1 (hR.inS hS) (hR.inL hT) B1 c.2.2.2.2.1 hx hy hz1) (fun v h q => ?_)
  obtain ⟨e, ff, pz⟩ := q
  have c' := c.sp ff pz
  have m' := m.keep (h' := h) (fun x _ _ => ff x (by omega))
  refine ⟨_, e, m'.1.C.1.ob, vs_mono (m_spans (d := D + 35) hf hz hN hP hS hT B2 m'.1 hx hy hz1) (fun v' h' q => ?_)⟩
  obtain ⟨e', t, ft⟩ := q
  exact ⟨e', hP, hN, S, T, W, Sm, Tm, c'.keep (fun x hx => ft x (by omega) (by omega)), m'.ft t ft, hR, hS, hT, hZ⟩
theorem cs_like (hz : 615 ≤ sz) (I : INV p N hp) {x : Int} (hx : -2147483648 ≤ x ∧ x < 2147483648) {y : Int} (hy : -2147483648 ≤ y ∧ y < 2147483648) : CS G D mX6_like mX7_like [vr 0, vi x, vi y] [vr 92, vi x, vi y] p N hp sz := by
  obtain ⟨hP, hN, S, T, W, Sm, Tm, c, m, hR, hS, hT, hZ⟩ := I
  have hf := io_iot hP.le.1
  obtain ⟨Rb, st, en, xb, B1, B2⟩ := bars_both hf hP hN W hR hS
  refine vs_mono (t_like6 (d := D + 34) hf c.1 (by omega) hN hP c.2.1 (hR.inS hS) (hR.inL hT) B1 c.2.2.2.2.1 c.2.2.2.2.2.1 c.2.2.2.2.2.2.1 hx hy) (fun v h q => ?_)
  obtain ⟨r, e, hr, ff, pz, s1, s2⟩ := q
  have c' := c.sp2 ff pz s1 s2
  have m' := m.keep (h' := h) (fun x _ _ => ff x (by omega))
  refine ⟨_, e, m'.1.C.1.ob, vs_mono (m_like (d := D + 35) hf hz hN hP hS hT B2 (fun l hl => (B2 l hl).le32 (hf.inv hP) (Iot.ne hf hP.le.1) hN.2 (fun k => szs_4 hS hl k)) m'.1 hx hy) (fun v' h' q => ?_)⟩
  obtain ⟨r', e', hr', t, ft⟩ := q
  have er : r' = r := by
    cases r with
    | true => exact hr'.2 (hr.1 rfl)
    | false =>
      cases r' with
      | false => rfl
      | true => exact absurd (hr.2 (hr'.1 rfl)) (by decide)
  exact ⟨by rw [e', er], hP, hN, S, T, W, Sm, Tm, c'.keep (fun x hx => ft x (by omega) (by omega)), m'.ft t ft, hR, hS, hT, hZ⟩
theorem cs_rank (hz : 615 ≤ sz) (I : INV p N hp) {x : Int} (hx : -2147483648 ≤ x ∧ x < 2147483648) {y : Int} (hy : -2147483648 ≤ y ∧ y < 2147483648) {z : Int} (hz1 : -2147483648 ≤ z ∧ z < 2147483648) : CS G D mX6_rank mX7_rank [vr 0, vi x, vi y, vi z] [vr 92, vi x, vi y, vi z] p N hp sz := by
  obtain ⟨hP, hN, S, T, W, Sm, Tm, c, m, hR, hS, hT, hZ⟩ := I
  have hf := io_iot hP.le.1
  obtain ⟨Rb, st, en, xb, B1, B2⟩ := bars_both hf hP hN W hR hS
  refine vs_mono (t_rank6 (d := D + 34) hf c.1 (by omega) hN hP c.2.1 (hR.inS hS) (hR.inL hT) B1 c.2.2.2.2.1 hx hy hz1) (fun v h q => ?_)
  obtain ⟨e, ff, pz⟩ := q
  have c' := c.sp ff pz
  have m' := m.keep (h' := h) (fun x _ _ => ff x (by omega))
  have hw : ∃ w : Int, v = vi w := by
    rcases e with ⟨_, e⟩ | ⟨_, e⟩
    · exact ⟨_, e⟩
    · exact ⟨_, e⟩
  obtain ⟨w, ew⟩ := hw
  refine ⟨w, ew, m'.1.C.1.ob, vs_mono (m_rank (d := D + 37) hf hz hN hP hS hT B2 m'.1 m'.2.2.2.1 hx hy hz1) (fun v' h' q => ?_)⟩
  obtain ⟨e', t, cl, ft⟩ := q
  refine ⟨?_, hP, hN, S, T, W, Sm, Tm, c'.keep (fun x hx => ft x (by omega) (by omega)), ⟨t, ?_⟩, hR, hS, hT, hZ⟩
  · rw [← ew]
    rcases e with ⟨cd, e⟩ | ⟨nc, e⟩
    · rcases e' with ⟨_, e'⟩ | ⟨nc, _⟩
      · rw [e, e']
      · exact absurd cd nc
    · rcases e' with ⟨cd, _⟩ | ⟨_, e'⟩
      · exact absurd cd nc
      · rw [e, e']
  · obtain ⟨-, ⟨A, E, c1⟩, ⟨f0, c2⟩, -, ⟨Bg, En, Cn, c5, c6, c7⟩, ⟨pr, td, c8, c9, c10⟩, ⟨r, g, c11⟩, ⟨pa, c12⟩, F, c13⟩ := m'
    exact ⟨⟨A, E, c1.keep (ft _ (by omega) (by omega)) (ft _ (by omega) (by omega))⟩, ⟨f0, (ft _ (by omega) (by omega)).trans c2⟩, cl, ⟨Bg, En, Cn, (ft _ (by omega) (by omega)).trans c5, (ft _ (by omega) (by omega)).trans c6, (ft _ (by omega) (by omega)).trans c7⟩, ⟨pr, td, (ft _ (by omega) (by omega)).trans c8, (ft _ (by omega) (by omega)).trans c9, c10⟩, ⟨r, g, c11.keep (fun x h1 h2 => ft x (by omega) (by omega))⟩, ⟨pa, (ft _ (by omega) (by omega)).trans c12⟩, F, c13.keep (fun x h1 h2 => ft x (by omega) (by omega))⟩
theorem cs_far (hz : 615 ≤ sz) (I : INV p N hp) {x : Int} (hx : -2147483648 ≤ x ∧ x < 2147483648) {y : Int} (hy : -2147483648 ≤ y ∧ y < 2147483648) : CS G D mX6_far mX7_far [vr 0, vi x, vi y] [vr 92, vi x, vi y] p N hp sz := by
  obtain ⟨hP, hN, S, T, W, Sm, Tm, c, m, hR, hS, hT, hZ⟩ := I
  have hf := io_iot hP.le.1
  obtain ⟨Rb, st, en, xb, B1, B2⟩ := bars_both hf hP hN W hR hS
  refine vs_mono (t_far6 (d := D + 34) hf c.1 (by omega) hN hP c.2.1 (hR.inS hS) (hR.inL hT) B1 c.2.2.2.2.1 c.2.2.2.2.2.1 c.2.2.2.2.2.2.1 c.2.2.2.2.2.2.2.1 hx hy) (fun v h q => ?_)
  obtain ⟨e, ff, pz, s1, s2, px⟩ := q
  have c' := c.pz ff pz s1 s2 px
  have m' := m.keep (h' := h) (fun x _ _ => ff x (by omega))
  have hw : ∃ w : Int, v = vi w := by
    rcases e with ⟨_, r, e, _⟩ | ⟨_, e⟩
    · exact ⟨_, e⟩
    · exact ⟨_, e⟩
  obtain ⟨w, ew⟩ := hw
  refine ⟨w, ew, m'.1.C.1.ob, vs_mono (m_far (d := D + 4) hf hz hN hP hS hT B2 m'.1 m'.2.2.2.2.1 m'.2.2.2.2.2.1 hx hy) (fun v' h' q => ?_)⟩
  obtain ⟨e', t, ft, ls, ps⟩ := q
  refine ⟨?_, hP, hN, S, T, W, Sm, Tm, c'.keep (fun x hx => ft x (by omega) (by omega)), ⟨t, ?_⟩, hR, hS, hT, hZ⟩
  · rw [← ew]
    rcases e with ⟨cd, r, e, f1⟩ | ⟨nc, e⟩
    · rcases e' with ⟨_, r', e', f2⟩ | ⟨nc, _⟩
      · rw [e, e', f1.uni f2]
      · exact absurd cd nc
    · rcases e' with ⟨cd, _⟩ | ⟨_, e'⟩
      · exact absurd cd nc
      · rw [e, e']
  · obtain ⟨-, ⟨A, E, c1⟩, ⟨f0, c2⟩, ⟨col, Ll, c3, c4⟩, -, -, ⟨r, g, c11⟩, ⟨pa, c12⟩, F, c13⟩ := m'
    exact ⟨⟨A, E, c1.keep (ft _ (by omega) (by omega)) (ft _ (by omega) (by omega))⟩, ⟨f0, (ft _ (by omega) (by omega)).trans c2⟩, ⟨col, Ll, (ft _ (by omega) (by omega)).trans c3, (ft _ (by omega) (by omega)).trans c4⟩, ls, ps, ⟨r, g, c11.keep (fun x h1 h2 => ft x (by omega) (by omega))⟩, ⟨pa, (ft _ (by omega) (by omega)).trans c12⟩, F, c13.keep (fun x h1 h2 => ft x (by omega) (by omega))⟩
theorem cs_kind (hz : 615 ≤ sz) (I : INV p N hp) {x : Int} (hx : -2147483648 ≤ x ∧ x < 2147483648) {y : Int} (hy : -2147483648 ≤ y ∧ y < 2147483648) : CS G D mX6_kind mX7_kind [vr 0, vi x, vi y] [vr 92, vi x, vi y] p N hp sz := by
  obtain ⟨hP, hN, S, T, W, Sm, Tm, c, m, hR, hS, hT, hZ⟩ := I
  obtain ⟨pa0, li0, ab0, be0, s0, t0⟩ := c.2.2.2.2.2.2.2.2
  refine vs_mono (t_kind6 (d := D + 38) c.1 (by omega) hN t0 hx hy) (fun v h q => ?_)
  obtain ⟨e1, e2, ff, t⟩ := q
  have c' := c.tr ff t
  have m' := m.keep (h' := h) (fun x _ _ => ff x (by omega))
  obtain ⟨r, g, sq⟩ := m'.2.2.2.2.2.2.1
  obtain ⟨pa, ua⟩ := m'.2.2.2.2.2.2.2.1
  have hw : ∃ w : Int, v = vi w := by
    by_cases q : isTr x y
    · exact ⟨_, e1 q⟩
    · exact ⟨_, e2 q⟩
  obtain ⟨w, ew⟩ := hw
  refine ⟨w, ew, m'.1.C.1.ob, vs_mono (m_kind (d := D + 38) m'.1.C hz ua sq hx hy) (fun v' h' q => ?_)⟩
  obtain ⟨f1, f2, C2, ft, sq2, pa1, ua1, -⟩ := q
  refine ⟨?_, hP, hN, S, T, W, Sm, Tm, c'.keep (fun x hx => ft x (by omega)), ⟨m'.1.k2 (fun x h1 h2 => ft x (by omega)), ?_⟩, hR, hS, hT, hZ⟩
  · rw [← ew]
    by_cases q : isTr x y
    · rw [e1 q, f1 q]
    · rw [e2 q, f2 q]
  · obtain ⟨-, ⟨A, E, c1⟩, ⟨f0, c2⟩, ⟨col, Ll, c3, c4⟩, ⟨Bg, En, Cn, c5, c6, c7⟩, ⟨pr, td, c8, c9, c10⟩, -, -, F, c13⟩ := m'
    exact ⟨⟨A, E, c1.keep (ft _ (by omega)) (ft _ (by omega))⟩, ⟨f0, (ft _ (by omega)).trans c2⟩, ⟨col, Ll, (ft _ (by omega)).trans c3, (ft _ (by omega)).trans c4⟩, ⟨Bg, En, Cn, (ft _ (by omega)).trans c5, (ft _ (by omega)).trans c6, (ft _ (by omega)).trans c7⟩, ⟨pr, td, (ft _ (by omega)).trans c8, (ft _ (by omega)).trans c9, c10⟩, sq2, ⟨pa1, ua1⟩, F, c13.keep (fun x h1 h2 => ft x (by omega))⟩
theorem cs_roots (hz : 615 ≤ sz) (I : INV p N hp) {x : Int} (hx : -2147483648 ≤ x ∧ x < 2147483648) {y : Int} (hy : -2147483648 ≤ y ∧ y < 2147483648) : CS G D mX6_roots mX7_roots [vr 0, vi x, vi y] [vr 92, vi x, vi y] p N hp sz := by
  obtain ⟨hP, hN, S, T, W, Sm, Tm, c, m, hR, hS, hT, hZ⟩ := I
  obtain ⟨pa0, li0, ab0, be0, s0, t0⟩ := c.2.2.2.2.2.2.2.2
  have hcl : ∃ Qt pi ro Ls, (isTr x y → kdT (dg y.toNat) x.toNat = 1 → IsoT x.toNat (dg y.toNat) Qt pi ro ∧ VRL Qt x.toNat Ls) ∧ (isTr x y → kdT (dg y.toNat) x.toNat = 1 → ∀ (L0 : Nat → Int) v, (∀ j, j < 9 → L0 j = 0) → rcP (dg y.toNat) (lnF (dg y.toNat) L0 x.toNat) x.toNat v → v = (Ls.length : Nat)) := by
    by_cases q : isTr x y ∧ kdT (dg y.toNat) x.toNat = 1
    · obtain ⟨Q, pi, ro, Ls, g1, g2, g3⟩ := fin_T (n := x.toNat) ⟨by have := q.1.1; omega, by have := q.1.2.1; omega⟩ (fun j h1 h2 => q.1.2.2.2.1 j h1 h2) q.2
      exact ⟨Q, pi, ro, Ls, fun _ _ => ⟨g1, g2⟩, fun _ _ => g3⟩
    · exact ⟨fun i => i, fun i => i, fun i => i, [], fun a b => absurd ⟨a, b⟩ q, fun a b => absurd ⟨a, b⟩ q⟩
  obtain ⟨Qt, pi, ro, Ls, hIv, hlen⟩ := hcl
  refine vs_mono (t_roots6 (d := D + 37) c.1 (by omega) hN t0 hx hy) (fun v h q => ?_)
  obtain ⟨e1, e2, e3, ff, t⟩ := q
  have c' := c.tr ff t
  have m' := m.keep (h' := h) (fun x _ _ => ff x (by omega))
  obtain ⟨r, g, sq⟩ := m'.2.2.2.2.2.2.1
  obtain ⟨pa, ua⟩ := m'.2.2.2.2.2.2.2.1
  obtain ⟨F, fx⟩ := m'.2.2.2.2.2.2.2.2
  have hv : (isTr x y → kdT (dg y.toNat) x.toNat = 1 → v = vi (Ls.length : Nat)) := fun a b => by
    obtain ⟨w, li, e, rc⟩ := e2 a b
    rw [e, hlen a b _ w (fun j hj => if_pos hj) rc]
  have hw : ∃ w : Int, v = vi w := by
    by_cases q : isTr x y
    · by_cases k : kdT (dg y.toNat) x.toNat = 1
      · exact ⟨_, hv q k⟩
      · exact ⟨_, e1 q k⟩
    · exact ⟨_, e3 q⟩
  obtain ⟨w, ew⟩ := hw
  refine ⟨w, ew, m'.1.C.1.ob, vs_mono (m_roots (d := D + 37) m'.1.C hz ua sq fx hx hy hIv) (fun v' h' q => ?_)⟩
  obtain ⟨f1, f2, f3, C2, ft, sq2, fx2, pa1, ua1⟩ := q
  refine ⟨?_, hP, hN, S, T, W, Sm, Tm, c'.keep (fun x hx => ft x (by omega)), ⟨m'.1.k2 (fun x h1 h2 => ft x (by omega)), ?_⟩, hR, hS, hT, hZ⟩
  · rw [← ew]
    by_cases q : isTr x y
    · by_cases k : kdT (dg y.toNat) x.toNat = 1
      · rw [hv q k, f2 q k]
      · rw [e1 q k, f1 q k]
    · rw [e3 q, f3 q]
  · obtain ⟨-, ⟨A, E, c1⟩, ⟨f0, c2⟩, ⟨col, Ll, c3, c4⟩, ⟨Bg, En, Cn, c5, c6, c7⟩, ⟨pr, td, c8, c9, c10⟩, -, -, -⟩ := m'
    exact ⟨⟨A, E, c1.keep (ft _ (by omega)) (ft _ (by omega))⟩, ⟨f0, (ft _ (by omega)).trans c2⟩, ⟨col, Ll, (ft _ (by omega)).trans c3, (ft _ (by omega)).trans c4⟩, ⟨Bg, En, Cn, (ft _ (by omega)).trans c5, (ft _ (by omega)).trans c6, (ft _ (by omega)).trans c7⟩, ⟨pr, td, (ft _ (by omega)).trans c8, (ft _ (by omega)).trans c9, c10⟩, sq2, ⟨pa1, ua1⟩, fx2⟩
end

/-! a call on both sides -/
def CS (G : GL) (D : Nat) (M6 M7 : MD) (a6 a7 : List AV) (p N : Nat) (hp : HP) (sz : Nat) : Prop := Ct G (D + 40) 0 0 M6 a6 hp sz (Vs (fun v h => ∃ w : Int, v = vi w ∧ isob h 92 7 ∧ Ct G (D + 40) 0 0 M7 a7 h sz (Vs (fun v' h' => v' = vi w ∧ INV p N h') sz)) sz)
theorem vs_mono {G : GL} {d : Nat} {M : MD} {as : List AV} {hp : HP} {sz : Nat} {A B : AV → HP → Prop} (k : Ct G d 0 0 M as hp sz (Vs A sz)) (h : ∀ v h, A v h → B v h) : Ct G d 0 0 M as hp sz (Vs B sz) :=
  k.mono (fun r h' z q => by
    obtain ⟨v, q1, q2, q3⟩ := q
    exact ⟨v, q1, q2, h v h' q3⟩)
theorem rd_vs {G : GL} {d : Nat} {M : MD} {as : List AV} {hp : HP} {sz : Nat} {v0 : AV} (k : Ct G d 0 0 M as hp sz (Rd (some v0) hp sz)) : Ct G d 0 0 M as hp sz (Vs (fun v h => v = v0 ∧ h = hp) sz) :=
  k.mono (fun r h' z q => by
    obtain ⟨q1, q2, q3⟩ := q
    exact ⟨v0, q1, q3, rfl, q2⟩)
theorem CLI.lys {p N : Nat} {S T S' T' : Nat → Nat → Int} {W W' : Nat → Nat} {h h' : HP} (c : CLI p N S T W h) (C : ClsA h' p N) (L : LysA h' S' T' W') (ff : Fr h h' 2 25) : CLI p N S' T' W' h' := by
  obtain ⟨c1, c2, ⟨s, n, w, c3⟩, c4, c5, ⟨u1, v1, k1, c6⟩, ⟨u2, v2, k2, c7⟩, ⟨po, pt, rf, wt, c8⟩, pa, li, ab, be, q, c9⟩ := c
  exact ⟨C, L, ⟨s, n, w, c3.keep (fun x _ h2 => ff x (by omega))⟩, c4.keep (fun x _ h2 => ff x (by omega)), c5.keep (fun x _ h2 => ff x (by omega)), ⟨u1, v1, k1, c6.keep (fun x _ h2 => ff x (by omega))⟩, ⟨u2, v2, k2, c7.keep (fun x _ h2 => ff x (by omega))⟩, ⟨po, pt, rf, wt, c8.keep (fun x _ h2 => ff x (by omega))⟩, pa, li, ab, be, q, c9.keep (fun x _ h2 => ff x (by omega))⟩
theorem CLI.lys2 {p N : Nat} {S T S' T' : Nat → Nat → Int} {W W' : Nat → Nat} {h h' : HP} (c : CLI p N S T W h) (C : ClsA h' p N) (L : LysA h' S' T' W') (L26 : ∃ s n w, Lay h' 26 s n w) (RX : RwX h' 29 p) (ff : Fr h h' 2 35) : CLI p N S' T' W' h' := by
  obtain ⟨c1, c2, c3, c4, c5, ⟨u1, v1, k1, c6⟩, ⟨u2, v2, k2, c7⟩, ⟨po, pt, rf, wt, c8⟩, pa, li, ab, be, q, c9⟩ := c
  exact ⟨C, L, L26, RX, c5.keep (fun x _ h2 => ff x (by omega)), ⟨u1, v1, k1, c6.keep (fun x _ h2 => ff x (by omega))⟩, ⟨u2, v2, k2, c7.keep (fun x _ h2 => ff x (by omega))⟩, ⟨po, pt, rf, wt, c8.keep (fun x _ h2 => ff x (by omega))⟩, pa, li, ab, be, q, c9.keep (fun x _ h2 => ff x (by omega))⟩
theorem CLI.pz {p N : Nat} {S T : Nat → Nat → Int} {W : Nat → Nat} {h h' : HP} (c : CLI p N S T W h) (ff : Fr h h' 36 86) (P : PZ h' p N) (s1 : ∃ u v c, SpA h' 76 u v c) (s2 : ∃ u v c, SpA h' 79 u v c) (px : PrX h') : CLI p N S T W h' := by
  obtain ⟨c1, c2, ⟨s, n, w, c3⟩, c4, c5, c6, c7, c8, pa, li, ab, be, q, c9⟩ := c
  exact ⟨c1.keep (ff _ (by omega)) (ff _ (by omega)), c2.keep (fun x _ h2 => ff x (by omega)), ⟨s, n, w, c3.keep (fun x _ h2 => ff x (by omega))⟩, c4.keep (fun x _ h2 => ff x (by omega)), P, s1, s2, px, pa, li, ab, be, q, c9.keep (fun x _ h2 => ff x (by omega))⟩
theorem CLI.tr {p N : Nat} {S T : Nat → Nat → Int} {W : Nat → Nat} {h h' : HP} (c : CLI p N S T W h) (ff : Fr h h' 87 91) (t : ∃ pa li ab be s, TrA h' pa li ab be s) : CLI p N S T W h' := by
  obtain ⟨c1, c2, ⟨s, n, w, c3⟩, c4, c5, ⟨u1, v1, k1, c6⟩, ⟨u2, v2, k2, c7⟩, ⟨po, pt, rf, wt, c8⟩, c9⟩ := c
  exact ⟨c1.keep (ff _ (by omega)) (ff _ (by omega)), c2.keep (fun x _ h2 => ff x (by omega)), ⟨s, n, w, c3.keep (fun x _ h2 => ff x (by omega))⟩, c4.keep (fun x _ h2 => ff x (by omega)), c5.keep (fun x _ h2 => ff x (by omega)), ⟨u1, v1, k1, c6.keep (fun x _ h2 => ff x (by omega))⟩, ⟨u2, v2, k2, c7.keep (fun x _ h2 => ff x (by omega))⟩, ⟨po, pt, rf, wt, c8.keep (fun x _ h2 => ff x (by omega))⟩, t⟩
theorem CLI.sp {p N : Nat} {S T : Nat → Nat → Int} {W : Nat → Nat} {h h' : HP} (c : CLI p N S T W h) (ff : Fr h h' 36 75) (P : PZ h' p N) : CLI p N S T W h' := by
  obtain ⟨c1, c2, c3, c4, c5, ⟨u1, v1, k1, c6⟩, ⟨u2, v2, k2, c7⟩, ⟨po, pt, rf, wt, c8⟩, c9⟩ := id c
  exact c.pz (ff.wide (by omega) (by omega)) P ⟨u1, v1, k1, c6.keep (fun x _ h2 => ff x (by omega))⟩ ⟨u2, v2, k2, c7.keep (fun x _ h2 => ff x (by omega))⟩ ⟨po, pt, rf, wt, c8.keep (fun x _ h2 => ff x (by omega))⟩
theorem CLI.sp2 {p N : Nat} {S T : Nat → Nat → Int} {W : Nat → Nat} {h h' : HP} (c : CLI p N S T W h) (ff : Fr h h' 36 81) (P : PZ h' p N) (s1 : ∃ u v c, SpA h' 76 u v c) (s2 : ∃ u v c, SpA h' 79 u v c) : CLI p N S T W h' := by
  obtain ⟨c1, c2, c3, c4, c5, c6, c7, ⟨po, pt, rf, wt, c8⟩, c9⟩ := id c
  exact c.pz (ff.wide (by omega) (by omega)) P s1 s2 ⟨po, pt, rf, wt, c8.keep (fun x _ h2 => ff x (by omega))⟩
theorem MOI.ft {p N : Nat} {W : Nat → Nat} {S T : Nat → Int} {h h' : HP} (c : MOI p N W S T h) (t : TX h' p N W S T) (ff : Ft h h') : MOI p N W S T h' :=
  ⟨t, MOR.keep c.2 (ff _ (by omega) (by omega)) (ff _ (by omega) (by omega)) (ff _ (by omega) (by omega)) (fun x h1 h2 => ff x (by omega) (by omega))⟩
section
variable {G : GL} {D : Nat} {hp : HP} {sz p N : Nat}
theorem cs_lay (hz : 615 ≤ sz) (I : INV p N hp) {x : Int} (hx : -2147483648 ≤ x ∧ x < 2147483648) {y : Int} (hy : -2147483648 ≤ y ∧ y < 2147483648) {z : Int} (hz1 : -2147483648 ≤ z ∧ z < 2147483648) : CS G D mX6_lay mX7_lay [vr 0, vi x, vi y, vi z] [vr 92, vi x, vi y, vi z] p N hp sz := by
  obtain ⟨hP, hN, S, T, W, Sm, Tm, c, m, hR, hS, hT, hZ⟩ := I
  refine vs_mono (t_lay9 (d := D + 38) c.1 (by omega) hN c.2.1 hx hy hz1) (fun v h q => ?_)
  rcases q with ⟨cd, e, C', ff, s1, n1, L', a1, a2⟩ | ⟨nc, e, eh⟩
  · have c' := c.lys C' L' ff
    have m' := m.keep (h' := h) (fun x _ _ => ff x (by omega))
    refine ⟨1, e, m'.1.C.1.ob, vs_mono (m_lay (d := D + 38) m'.1.C hz hN m'.1.D hx hy hz1) (fun v' h' q => ?_)⟩
    rcases q with ⟨_, e', C2, ff2, S1, T1, D2, b1, b2⟩ | ⟨nc, _⟩
    · have r := lay_rel hP hR hS hT hZ (x := x.toNat) (w := y.toNat) (by omega) hN.2 cd.2.2.2.2.2.2 a1 a2 b1 b2
      exact ⟨e', hP, hN, _, _, _, _, _, c'.keep (fun x _ => ff2 x (by omega)), m'.tab C2 D2 ff2, r.1, r.2.1, r.2.2.1, r.2.2.2⟩
    · exact absurd cd nc
  · subst eh
    refine ⟨0, e, m.1.C.1.ob, vs_mono (m_lay (d := D + 38) m.1.C hz hN m.1.D hx hy hz1) (fun v' h' q => ?_)⟩
    rcases q with ⟨cd, _⟩ | ⟨_, e', eh⟩
    · exact absurd cd nc
    · subst eh
      exact ⟨e', hP, hN, S, T, W, Sm, Tm, c, m, hR, hS, hT, hZ⟩
theorem cs_set (hz : 615 ≤ sz) (I : INV p N hp) {x : Int} (hx : -2147483648 ≤ x ∧ x < 2147483648) {y : Int} (hy : -2147483648 ≤ y ∧ y < 2147483648) {u : Int} (hu : -2147483648 ≤ u ∧ u < 2147483648) {v : Int} (hv : -2147483648 ≤ v ∧ v < 2147483648) {z : Int} (hz1 : -2147483648 ≤ z ∧ z < 2147483648) : CS G D mX6_set mX7_set [vr 0, vi x, vi y, vi u, vi v, vi z] [vr 92, vi x, vi y, vi u, vi v, vi z] p N hp sz := by
  obtain ⟨hP, hN, S, T, W, Sm, Tm, c, m, hR, hS, hT, hZ⟩ := I
  refine vs_mono (t_set9 (d := D + 36) c.1 (by omega) hN hP c.2.1 (hR.inS hS) hx hy hu hv hz1) (fun r h q => ?_)
  obtain ⟨C', ff, q⟩ := q
  have m' := m.keep (h' := h) (fun x _ _ => ff x (by omega))
  rcases q with ⟨l, k, i, j, cd, e, L'⟩ | ⟨nc, e, eh⟩
  · have c' := c.lys C' L' ff
    refine ⟨1, e, m'.1.C.1.ob, vs_mono (m_set (d := D + 37) m'.1.C hz hN hP m'.1.D hS hx hy hu hv hz1) (fun v' h' q => ?_)⟩
    obtain ⟨C2, ff2, q⟩ := q
    rcases q with ⟨l2, k2, i2, j2, cd2, e', D2⟩ | ⟨nc, _⟩
    · have r := set_rel hP hN.2 hR hS hT hZ cd z
      obtain ⟨w1, w2, w3, w4, -⟩ := cd
      obtain ⟨y1, y2, y3, y4, -⟩ := cd2
      have el : l2 = l := by omega
      have ek : k2 = k := by omega
      have ei : i2 = i := by omega
      have ej : j2 = j := by omega
      subst el ek ei ej
      exact ⟨e', hP, hN, _, _, _, _, _, c'.keep (fun x _ => ff2 x (by omega)), m'.tab C2 D2 (ff2.wide (by omega) (by omega)), r.1, hS, r.2.1, r.2.2⟩
    · exact absurd ⟨l, k, i, j, (hR.cell hN.2).1 cd⟩ nc
  · subst eh
    refine ⟨0, e, m.1.C.1.ob, vs_mono (m_set (d := D + 37) m.1.C hz hN hP m.1.D hS hx hy hu hv hz1) (fun v' h' q => ?_)⟩
    obtain ⟨C2, ff2, q⟩ := q
    rcases q with ⟨l2, k2, i2, j2, cd2, _⟩ | ⟨_, e', eh⟩
    · exact absurd ⟨l2, k2, i2, j2, (hR.cell hN.2).2 cd2⟩ nc
    · subst eh
      exact ⟨e', hP, hN, S, T, W, Sm, Tm, c, m, hR, hS, hT, hZ⟩
theorem cs_get (hz : 615 ≤ sz) (I : INV p N hp) {x : Int} (hx : -2147483648 ≤ x ∧ x < 2147483648) {y : Int} (hy : -2147483648 ≤ y ∧ y < 2147483648) {u : Int} (hu : -2147483648 ≤ u ∧ u < 2147483648) {v : Int} (hv : -2147483648 ≤ v ∧ v < 2147483648) : CS G D mX6_get mX7_get [vr 0, vi x, vi y, vi u, vi v] [vr 92, vi x, vi y, vi u, vi v] p N hp sz := by
  have I0 := I
  obtain ⟨hP, hN, S, T, W, Sm, Tm, c, m, hR, hS, hT, hZ⟩ := I
  refine vs_mono (t_get6 (d := D + 36) c.1 (by omega) hN c.2.1 (hR.inS hS) hx hy hu hv) (fun r h q => ?_)
  obtain ⟨eh, w, e, q⟩ := q
  subst eh
  refine ⟨w, e, m.1.C.1.ob, vs_mono (m_get (d := D + 37) m.1.C hz hN m.1.D hS hx hy hu hv) (fun v' h' q2 => ?_)⟩
  obtain ⟨eh, w2, e2, q2⟩ := q2
  subst eh
  refine ⟨?_, I0⟩
  rw [e2]
  congr 1
  rcases q with ⟨l, k, i, j, cd, a⟩ | ⟨nc, a⟩
  · rcases q2 with ⟨l2, k2, i2, j2, cd2, b⟩ | ⟨nc, b⟩
    · have s1 := (hR.inS hS) l
      obtain ⟨w1, w2, w3, w4, w5, w6, w7, w8⟩ := cd
      obtain ⟨y1, y2, y3, y4, -⟩ := cd2
      have el : l2 = l := by omega
      have ek : k2 = k := by omega
      have ei : i2 = i := by omega
      have ej : j2 = j := by omega
      subst el ek ei ej
      have u1 := s1 (if (W l2).testBit k2 then k2 else k2 + 1) w5 (by split <;> omega)
      have u2 := s1 (if (W l2).testBit k2 then k2 + 1 else k2) w5 (by split <;> omega)
      rw [a, b, hR.2 l2 _ w5 (by omega)]
      congr 1
      omega
    · exact absurd ⟨l, k, i, j, (hR.cell hN.2).1 cd⟩ nc
  · rcases q2 with ⟨l2, k2, i2, j2, cd2, b⟩ | ⟨_, b⟩
    · exact absurd ⟨l2, k2, i2, j2, (hR.cell hN.2).2 cd2⟩ nc
    · rw [a, b]
theorem cs_size (hz : 615 ≤ sz) (I : INV p N hp) {x : Int} (hx : -2147483648 ≤ x ∧ x < 2147483648) {y : Int} (hy : -2147483648 ≤ y ∧ y < 2147483648) : CS G D mX6_size mX7_size [vr 0, vi x, vi y] [vr 92, vi x, vi y] p N hp sz := by
  have I0 := I
  obtain ⟨hP, hN, S, T, W, Sm, Tm, c, m, hR, hS, hT, hZ⟩ := I
  refine vs_mono (rd_vs (t_size6 (d := D + 38) c.1 (by omega) hN c.2.1 hx hy)) (fun r h q => ?_)
  obtain ⟨e, rfl⟩ := q
  refine ⟨_, e, m.1.C.1.ob, vs_mono (rd_vs (m_size (d := D + 38) m.1.C hz hN m.1.D hx hy)) (fun v' h' q2 => ?_)⟩
  obtain ⟨e2, rfl⟩ := q2
  refine ⟨?_, I0⟩
  rw [e2]
  congr 1
  split
  · exact (hR.1 _ _ (by omega) (by omega)).symm
  · rfl
theorem cs_ways (hz : 615 ≤ sz) (I : INV p N hp) {x : Int} (hx : -2147483648 ≤ x ∧ x < 2147483648) : CS G D mX6_ways mX7_ways [vr 0, vi x] [vr 92, vi x] p N hp sz := by
  have I0 := I
  obtain ⟨hP, hN, S, T, W, Sm, Tm, c, m, hR, hS, hT, hZ⟩ := I
  refine vs_mono (rd_vs (t_ways6 (d := D + 38) c.1 (by omega) hN c.2.1 hx)) (fun r h q => ?_)
  obtain ⟨e, rfl⟩ := q
  refine ⟨_, e, m.1.C.1.ob, vs_mono (rd_vs (m_ways (d := D + 38) m.1.C hz hN m.1.D hx)) (fun v' h' q2 => ?_)⟩
  obtain ⟨e2, rfl⟩ := q2
  exact ⟨e2, I0⟩
theorem cs_count (hz : 615 ≤ sz) (I : INV p N hp) {x : Int} (hx : -2147483648 ≤ x ∧ x < 2147483648) : CS G D mX6_count mX7_count [vr 0, vi x] [vr 92, vi x] p N hp sz := by
  have I0 := I
  obtain ⟨hP, hN, S, T, W, Sm, Tm, c, m, hR, hS, hT, hZ⟩ := I
  refine vs_mono (rd_vs (t_count6 (d := D + 40) c.1 (by omega) hN hx)) (fun r h q => ?_)
  obtain ⟨e, rfl⟩ := q
  refine ⟨_, e, m.1.C.1.ob, vs_mono (rd_vs (m_count (d := D + 40) m.1.C hz hN hx)) (fun v' h' q2 => ?_)⟩
  obtain ⟨e2, rfl⟩ := q2
  exact ⟨e2, I0⟩
theorem cs_span (hz : 615 ≤ sz) (I : INV p N hp) {x : Int} (hx : -2147483648 ≤ x ∧ x < 2147483648) {y : Int} (hy : -2147483648 ≤ y ∧ y < 2147483648) {u : Int} (hu : -2147483648 ≤ u ∧ u < 2147483648) {v : Int} (hv : -2147483648 ≤ v ∧ v < 2147483648) : CS G D mX6_span mX7_span [vr 0, vi x, vi y, vi u, vi v] [vr 92, vi x, vi y, vi u, vi v] p N hp sz := by
  obtain ⟨hP, hN, S, T, W, Sm, Tm, c, m, hR, hS, hT, hZ⟩ := I
  refine vs_mono (t_span9 (d := D + 37) c.1 (by omega) hN c.2.1 hx hy hu hv) (fun r h q => ?_)
  rcases q with ⟨cd, e, C', ff, s1, n1, L', a1, a2, a3⟩ | ⟨nc, e, eh⟩
  · have c' := c.lys C' L' ff
    have m' := m.keep (h' := h) (fun x _ _ => ff x (by omega))
    refine ⟨1, e, m'.1.C.1.ob, vs_mono (m_span (d := D + 38) m'.1.C hz hN m'.1.D hx hy hu hv) (fun v' h' q => ?_)⟩
    rcases q with ⟨_, e', C2, ff2, S1, T1, D2, b1, b2, b3⟩ | ⟨nc, _⟩
    · have r := span_rel hP hR hS hT hZ (x := x.toNat) (w := y.toNat) (by omega) hN.2 (u := u.toNat) (v := v.toNat) (by omega) (by omega) a1 a2 a3 b1 b2 b3
      exact ⟨e', hP, hN, _, _, _, _, _, c'.keep (fun x _ => ff2 x (by omega)), m'.tab C2 D2 ff2, r.1, r.2.1, r.2.2.1, r.2.2.2⟩
    · exact absurd cd nc
  · subst eh
    refine ⟨0, e, m.1.C.1.ob, vs_mono (m_span (d := D + 38) m.1.C hz hN m.1.D hx hy hu hv) (fun v' h' q => ?_)⟩
    rcases q with ⟨cd, _⟩ | ⟨_, e', eh⟩
    · exact absurd cd nc
    · subst eh
      exact ⟨e', hP, hN, S, T, W, Sm, Tm, c, m, hR, hS, hT, hZ⟩
theorem cs_beside (hz : 615 ≤ sz) (I : INV p N hp) {x : Int} (hx : -2147483648 ≤ x ∧ x < 2147483648) {y : Int} (hy : -2147483648 ≤ y ∧ y < 2147483648) {z : Int} (hz1 : -2147483648 ≤ z ∧ z < 2147483648) : CS G D mX6_beside mX7_beside [vr 0, vi x, vi y, vi z] [vr 92, vi x, vi y, vi z] p N hp sz := by
  obtain ⟨hP, hN, S, T, W, Sm, Tm, c, m, hR, hS, hT, hZ⟩ := I
  have fit : ∀ a b, a < 8 → b < 8 → ((∀ j, j < N → S a j + S b j ≤ 4) ↔ ∀ j, j < N → szs Sm a j + szs Sm b j ≤ 4) := fun a b ha hb => by
    have k : ∀ l, l < 8 → ∀ j, j < N → ((szs Sm l j : Nat) : Int) = S l j := fun l hl j hj => by
      have := (hR.inS hS) l j hl (by omega)
      rw [← hR.sz hl]
      show ((if j < 8 then (S l j).toNat else 0 : Nat) : Int) = _
      rw [if_pos (by omega)]
      omega
    constructor
    · intro q j hj
      have := q j hj
      have := k a ha j hj
      have := k b hb j hj
      omega
    · intro q j hj
      have := q j hj
      have := k a ha j hj
      have := k b hb j hj
      omega
  refine vs_mono (t_beside6 (d := D + 36) c.1 (by omega) hN c.2.1 (hR.inS hS) c.2.2.1 hx hy hz1) (fun v h q => ?_)
  rcases q with ⟨cd, e, C', ff, sp, s3, n3, L', a1, a2⟩ | ⟨nc, e, eh⟩
  · have c' := c.lys2 C' L' sp (c.2.2.2.1.keep (fun x _ h2 => ff x (by omega))) (ff.wide (by omega) (by omega))
    have m' := m.keep (h' := h) (fun x _ _ => ff x (by omega))
    refine ⟨1, e, m'.1.C.1.ob, vs_mono (m_beside (d := D + 38) m'.1.C hz hN m'.1.D hS m'.2.1 hx hy hz1) (fun v' h' q => ?_)⟩
    rcases q with ⟨_, e', C2, ff2, nw, S1, T1, D2, b1, b2, b3, b4⟩ | ⟨nc, _⟩
    · have r := beside_rel hN hR hS hT hZ (a := x.toNat) (b := y.toNat) (z := z.toNat) (by omega) (by omega) cd.2.2.2.2.2.2.2 a1 a2 b1 b2 b3 b4
      refine ⟨e', hP, hN, _, _, _, _, _, c'.keep (fun x _ => ff2 x (by omega)), ⟨m'.1.re C2 D2 (ff2 _ (by omega)) (fun x h1 h2 => ff2 x (by omega)), ?_⟩, r.1, r.2.1, r.2.2.1, r.2.2.2⟩
      obtain ⟨g1, g2, g3, g4, g5, g6, g7, g8⟩ := MOR.keep (h' := fun x => if x = 96 then h 96 else if x = 97 then h 97 else h' x) m'.2 rfl rfl (ff2 _ (by omega)) (fun x h1 h2 => by
        show (if x = 96 then h 96 else if x = 97 then h 97 else h' x) = h x
        rw [if_neg (by omega), if_neg (by omega)]
        exact ff2 x (by omega))
      exact ⟨nw, (MOR.keep m'.2 (h' := fun x => if x = 96 then h 96 else if x = 97 then h 97 else h' x) rfl rfl (ff2 _ (by omega)) (fun x h1 h2 => by
        show (if x = 96 then h 96 else if x = 97 then h 97 else h' x) = h x
        rw [if_neg (by omega), if_neg (by omega)]
        exact ff2 x (by omega))).2.1, g3, g4, g5, by
        obtain ⟨r, g, q⟩ := m'.2.2.2.2.2.2.1
        exact ⟨r, g, q.keep (fun x h1 h2 => ff2 x (by omega))⟩, g7, by
        obtain ⟨F, q⟩ := m'.2.2.2.2.2.2.2.2
        exact ⟨F, q.keep (fun x h1 h2 => ff2 x (by omega))⟩⟩
    · refine absurd ⟨cd.1, cd.2.1, cd.2.2.1, cd.2.2.2.1, cd.2.2.2.2.1, cd.2.2.2.2.2.1, cd.2.2.2.2.2.2.1, (fit _ _ (by omega) (by omega)).1 cd.2.2.2.2.2.2.2⟩ nc
  · subst eh
    refine ⟨0, e, m.1.C.1.ob, vs_mono (m_beside (d := D + 38) m.1.C hz hN m.1.D hS m.2.1 hx hy hz1) (fun v' h' q => ?_)⟩
    rcases q with ⟨cd, _⟩ | ⟨_, e', eh⟩
    · refine absurd ⟨cd.1, cd.2.1, cd.2.2.1, cd.2.2.2.1, cd.2.2.2.2.1, cd.2.2.2.2.2.1, cd.2.2.2.2.2.2.1, (fit _ _ (by omega) (by omega)).2 cd.2.2.2.2.2.2.2⟩ nc
    · subst eh
      exact ⟨e', hP, hN, S, T, W, Sm, Tm, c, m, hR, hS, hT, hZ⟩
theorem cs_mix (hz : 615 ≤ sz) (I : INV p N hp) {x : Int} (hx : -2147483648 ≤ x ∧ x < 2147483648) {y : Int} (hy : -2147483648 ≤ y ∧ y < 2147483648) {u : Int} (hu : -2147483648 ≤ u ∧ u < 2147483648) {v : Int} (hv : -2147483648 ≤ v ∧ v < 2147483648) {z : Int} (hz1 : -2147483648 ≤ z ∧ z < 2147483648) : CS G D mX6_mix mX7_mix [vr 0, vi x, vi y, vi u, vi v, vi z] [vr 92, vi x, vi y, vi u, vi v, vi z] p N hp sz := by
  obtain ⟨hP, hN, S, T, W, Sm, Tm, c, m, hR, hS, hT, hZ⟩ := I
  have same : 0 ≤ x → x < 8 → 0 ≤ y → y < N → S x.toNat y.toNat = Sm (8 * x.toNat + y.toNat) := fun h1 h2 h3 h4 => hR.1 _ _ (by omega) (by omega)
  refine vs_mono (t_mix9 (d := D + 36) c.1 (by omega) hN hP c.2.1 (hR.inS hS) (hR.inL hT) hx hy hu hv hz1) (fun r h q => ?_)
  rcases q with ⟨cd, e, C', ff, n1, n2, L', a1, a2⟩ | ⟨nc, e, eh⟩
  · obtain ⟨d1, d2, d3, d4, d5, d6, d7, d8, d9, d10, d11⟩ := cd
    have c' := c.lys C' L' ff
    have m' := m.keep (h' := h) (fun x _ _ => ff x (by omega))
    refine ⟨1, e, m'.1.C.1.ob, vs_mono (m_mix (d := D + 38) m'.1.C hz hN hP m'.1.D hS hT hx hy hu hv hz1) (fun v' h' q => ?_)⟩
    rcases q with ⟨_, e', C2, ff2, T1, T2, D2, b1, b2⟩ | ⟨nc, _⟩
    · have r := mix_rel hP hN hR hS hT hZ (l := x.toNat) (y := y.toNat) (u := u.toNat) (v := v.toNat) (by omega) (by omega) (by omega) (by omega) a1 a2 b1 b2
      exact ⟨e', hP, hN, _, _, _, _, _, c'.keep (fun x _ => ff2 x (by omega)), m'.tab C2 D2 (ff2.wide (by omega) (by omega)), r.1, hS, r.2.1, r.2.2⟩
    · have := same d1 d2 d3 d4
      rw [this] at d6 d8
      exact absurd ⟨d1, d2, d3, d4, d5, d6, d7, d8, d9, d10, d11⟩ nc
  · subst eh
    refine ⟨0, e, m.1.C.1.ob, vs_mono (m_mix (d := D + 38) m.1.C hz hN hP m.1.D hS hT hx hy hu hv hz1) (fun v' h' q => ?_)⟩
    rcases q with ⟨cd, _⟩ | ⟨_, e', eh⟩
    · obtain ⟨d1, d2, d3, d4, d5, d6, d7, d8, d9, d10, d11⟩ := cd
      have := same d1 d2 d3 d4
      rw [← this] at d6 d8
      exact absurd ⟨d1, d2, d3, d4, d5, d6, d7, d8, d9, d10, d11⟩ nc
    · subst eh
      exact ⟨e', hP, hN, S, T, W, Sm, Tm, c, m, hR, hS, hT, hZ⟩
end

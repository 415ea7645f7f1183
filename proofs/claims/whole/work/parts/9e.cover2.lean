theorem whole_K {K : Type} [Lean.Grind.CommRing K] {p : Nat} {f : Int → K} (hf : Iot p f) (hp2 : 2 ≤ p) {N n : Nat} {s : Nat → Nat} {Lf : Nat → Bool} {T : Nat → Nat → Nat → K} {R : Nat} {st en : Nat → Nat} {x : Nat → Nat → Nat → K} (hB : Bar N 4 s Lf T R st en x) {i0 : Nat} (hi : i0 < N) (hn : s i0 = n) (hn4 : n ≤ 4) {h : HP} {b : Nat} {M M1 : Nat → Nat → Int} {hd1 : Nat → Int} (hM : inP M p) (R1 : RowsA h b p M1 hd1 n n) (e1' : ∀ x, x < n → ∀ j, j < 8 → M1 x j = if j = x then 1 else 0) (e2 : ∀ x, n ≤ x → M1 x = M x) (e3 : ∀ x, x < n → hd1 x = (x : Int)) (e4 : ∀ x, n ≤ x → x < 8 → hd1 x = -1) : RwK f h b p n (s i0) (fun v => Spn R (fun r => Cw Lf st en i0 i0 r = true) (fun r => x r i0) v) := by
  rw [hn]
  refine ⟨M1, hd1, R1, fun i j hi9 hj => ?_, ⟨Nat.le_refl _, fun j hj => Or.inr ⟨j, hj, e3 j hj⟩, e4, fun r hr => ⟨r, hr, e3 r hr⟩, fun j r hj e => ?_, fun j j' r r' hjj hj e e' => ?_⟩, hn4, fun v => ?_⟩
  · by_cases l : i < n
    · rw [e1' i l j hj]; split <;> omega
    · rw [e2 i (by omega)]; exact hM i j hi9 hj
  · rw [e3 j hj] at e
    have er : r = j := by omega
    subst er
    refine ⟨by rw [e1' r hj r (by omega), if_pos rfl], fun i hi9 hne => by rw [e1' i hi9 r (by omega), if_neg (fun q => hne q.symm)], fun j' hj' => by rw [e1' r hj j' (by omega), if_neg (by omega)]⟩
  · rw [e3 j (by omega)] at e
    rw [e3 j' hj] at e'
    omega
  · have hrow : ∀ r, r < n → ∀ i, tr n f (M1 r) i = e1 r i := fun r hr i => by
      unfold e1
      by_cases l : i < n
      · rw [tr_lt l, e1' r hr i (by omega)]
        by_cases q : i = r
        · rw [if_pos q, if_pos q]; exact hf.2.2.1
        · rw [if_neg q, if_neg q]; exact hf.zero
      · rw [tr_ge (by omega), if_neg (by omega)]
    have hall : Spn n (fun _ => True) (fun r => tr n f (M1 r)) v ↔ ∀ i, n ≤ i → v i = 0 := by
      constructor
      · rintro ⟨c, c1, c2⟩ i hi9
        rw [c2 i]
        exact su_z n (fun r _ => by dsimp only; rw [tr_ge hi9]; grind)
      · intro hv
        refine ⟨v, fun r q => absurd trivial q, fun i => ?_⟩
        rw [su_e1 hv i]
        exact su_cg n (fun r hr => by dsimp only; rw [hrow r hr i])
    rw [hall]
    constructor
    · intro hv
      refine (hB.2.2.2.2.1 i0 hi v (fun i hi9 => hv i (by omega))).cgA (fun r _ q => ?_)
      unfold Cw
      simp only [Bool.and_eq_true, Bool.or_eq_true, decide_eq_true_eq]
      exact ⟨q, Or.inl q.1⟩
    · rintro ⟨c, c1, c2⟩ i hi9
      rw [c2 i]
      exact su_z R (fun r hr => by dsimp only; rw [hB.2.2.1 r i0 i hr (by omega)]; grind)
theorem noth_K {K : Type} [Lean.Grind.CommRing K] {p : Nat} {f : Int → K} {s : Nat → Nat} {Lf : Nat → Bool} {R : Nat} {st en : Nat → Nat} {x : Nat → Nat → Nat → K} {i0 : Nat} {h : HP} {b : Nat} {M : Nat → Nat → Int} {hd1 : Nat → Int} (hM : inP M p) (hs : s i0 ≤ 4) (R1 : RowsA h b p M hd1 0 (s i0)) (e : ∀ j, j < 8 → hd1 j = -1) : RwK f h b p 0 (s i0) (fun v => Spn R (fun r => Cn Lf st en i0 i0 r = true) (fun r => x r i0) v) := by
  refine ⟨M, hd1, R1, hM, ⟨Nat.zero_le _, fun j hj => Or.inl (e j (by omega)), fun j _ hj => e j hj, fun r hr => absurd hr (Nat.not_lt_zero _), fun j r hj e9 => by rw [e j (by omega)] at e9; omega, fun j j' r r' hjj hj e9 => by rw [e j (by omega)] at e9; omega⟩, by omega, fun v => ?_⟩
  have hno : ∀ r, ¬ Cn Lf st en i0 i0 r = true := fun r q => by
    unfold Cn at q
    simp only [Bool.and_eq_true, decide_eq_true_eq] at q
    omega
  constructor
  · rintro ⟨c, c1, c2⟩
    exact Spn.zero.cg (fun i => c2 i)
  · rintro ⟨c, c1, c2⟩
    refine Spn.zero.cg (fun i => ?_)
    rw [c2 i]
    exact su_z R (fun r _ => by rw [c1 r (hno r)]; grind)

set_option maxRecDepth 4000 in
theorem t_coverFrom {K : Type} [Lean.Grind.CommRing K] {f : Int → K} {G : GL} {d : Nat} {sz p N : Nat} (hf : Iot p f) (hz : 92 ≤ sz) (hP : isP p) {a w : Nat} (ha : 2 ≤ a ∧ a ≤ 26) (hw : w < 128) {s' n : Nat → Int} {s : Nat → Nat} (hs : cs8 s' s) (hn : inL n p) {R : Nat} {st en : Nat → Nat} {x : Nat → Nat → Nat → K} (hB : Bar N 4 s (Lw w) (TK f n (Lw w) s 0) R st en x) (hN : 1 ≤ N ∧ N ≤ 8) {i0 la : Nat} (hil : i0 ≤ la) (hla : la < N) {hp : HP} (L : Lay hp a s' n w) {Kc : Nat → Nat → Int} (PX : PaX hp p N Kc) : Ct G (d + 4) 0 0 mX2_coverFrom [vr 36, vr a, vi i0, vi la] hp sz (Vd (fun h => Fr hp h 36 75 ∧ ∃ K1, PaX h p N K1 ∧ (∀ i, i ≠ i0 + 1 → K1 i = Kc i) ∧ (∀ j, j < 10 → K1 (i0 + 1) j = if i0 + 1 ≤ j ∧ j ≤ la + 1 then (cov R st en i0 (j - 1) : Int) else 0)) sz) := by
  show Ex _ _ _ _ _ _ [vr 36, vr a, vi i0, vi la, vu, vu] _ _ _ _
  obtain ⟨bw, bn, bx, P, CA, RC, ⟨Mw, hdw, cw, ww, RW, hMw⟩, ⟨Mn, hdn, cn, wn, RN, hMn⟩, RX, i1, i2, i3, n1, n2, n3⟩ := PX
  obtain ⟨F0, F1, F2, F3, F4, F5, F6⟩ := id P
  have hob := F0.ob
  obtain ⟨⟨gk, CA1, CA2⟩, CA3⟩ := id CA
  have hrow := CA3 (i0 + 1) (by omega)
  rw [show 37 + 1 + (i0 + 1) = 39 + i0 by omega] at hrow
  have hg := CA2 (i0 + 1) (by omega)
  rw [show 37 + 1 + (i0 + 1) = 39 + i0 by omega] at hg
  have hpl := hP.le
  have hsi := hs i0 (by omega)
  unfold in3 at i1 i2 i3
  obtain ⟨L1, L2, L3, L4, L5⟩ := id L
  refine x_aload_n (pc := 0) dX2_coverFrom_0 rfl ?_
  refine x_gf (pc := 1) dX2_coverFrom_1 fX2_11 (by assumption) (by omega) ?_
  refine x_iload_n (pc := 4) dX2_coverFrom_4 rfl ?_
  refine x_iconst (pc := 5) dX2_coverFrom_5 ?_
  refine x_iadd (pc := 6) dX2_coverFrom_6 ?_
  refine x_al (pc := 7) (j := i0 + 1) dX2_coverFrom_7 (by assumption) (by omega) (by omega) (by omega) hg ?_
  refine x_astore (pc := 8) dX2_coverFrom_8 (by decide) rfl ?_
  show Ex _ _ _ _ _ _ [_, _, _, _, _, _] _ _ _ _
  refine x_aload (pc := 10) dX2_coverFrom_10 rfl ?_
  refine x_iconst (pc := 12) dX2_coverFrom_12 ?_
  refine x_q2 (pc := 13) dX2_coverFrom_13 wJ7_fill_53178 sJ7_fill_53178 kX2_63 (by decide) rfl (Nat.le_of_ble_eq_true rfl) (t_fill hrow (by omega) (by omega)) (fun h13 e13 => ?_)
  subst e13
  have CAz := CA.put (i := i0 + 1) (g := (fun j => if j < 10 then 0 else Kc (i0 + 1) j)) (by omega)
  rw [show 38 + (i0 + 1) = 39 + i0 by omega] at CAz
  have Lz := L.keep (hp' := up hp (39 + i0) (ar 0 10 (fun j => if j < 10 then 0 else Kc (i0 + 1) j))) (fun x h1 h2 => up_n _ _ (by omega))
  have Pz := P.keep (h' := up hp (39 + i0) (ar 0 10 (fun j => if j < 10 then 0 else Kc (i0 + 1) j))) (up_n _ _ (by omega))
  have RWz := RW.keep (hp' := up hp (39 + i0) (ar 0 10 (fun j => if j < 10 then 0 else Kc (i0 + 1) j))) (fun x h1 h2 => up_n _ _ (by omega))
  have RNz := RN.keep (hp' := up hp (39 + i0) (ar 0 10 (fun j => if j < 10 then 0 else Kc (i0 + 1) j))) (fun x h1 h2 => up_n _ _ (by omega))
  have RCz := RC.keep (h' := up hp (39 + i0) (ar 0 10 (fun j => if j < 10 then 0 else Kc (i0 + 1) j))) (fun x h1 h2 => up_n _ _ (by omega))
  have RXz := RX.keep (h' := up hp (39 + i0) (ar 0 10 (fun j => if j < 10 then 0 else Kc (i0 + 1) j))) (fun x h1 h2 => up_n _ _ (by omega))
  have Fz : Fr hp (up hp (39 + i0) (ar 0 10 (fun j => if j < 10 then 0 else Kc (i0 + 1) j))) 36 75 := Fr.rf.up (by omega) (by omega)
  generalize up hp (39 + i0) (ar 0 10 (fun j => if j < 10 then 0 else Kc (i0 + 1) j)) = hZ at CAz Lz Pz RWz RNz RCz RXz Fz ⊢
  obtain ⟨F0, F1, F2, F3, F4, F5, F6⟩ := id Pz
  obtain ⟨L1, L2, L3, L4, L5⟩ := id Lz
  have hobw := RWz.ob
  refine x_aload_n (pc := 16) dX2_coverFrom_16 rfl ?_
  refine x_gf (pc := 17) dX2_coverFrom_17 fX2_32 (by assumption) (by omega) ?_
  refine x_aload_n (pc := 20) dX2_coverFrom_20 rfl ?_
  refine x_gn (pc := 21) dX2_coverFrom_21 fX2_69 (by assumption) (by omega) ?_
  refine x_iload_n (pc := 24) dX2_coverFrom_24 rfl ?_
  refine x_il (pc := 25) dX2_coverFrom_25 (by assumption) (by omega) rfl (by omega) ?_
  rw [hsi.1]
  refine x_p1 (pc := 26) dX2_coverFrom_26 wX3_startWhole iX3_startWhole kX2_75 (by decide) rfl (Nat.le_of_ble_eq_true rfl) hobw (by omega) (t_startWhole RWz (by omega) hsi.2) (fun h26 e26 => ?_)
  obtain ⟨f26, M1, hd1, RW1, w1, w2, w3, w4⟩ := e26
  have Pa := Pz.keep (f26 36 (by omega))
  have La := Lz.keep (fun x h1 h2 => f26 x (by omega))
  obtain ⟨F0, F1, F2, F3, F4, F5, F6⟩ := id Pa
  obtain ⟨L1, L2, L3, L4, L5⟩ := id La
  have RNa := RNz.keep (fun x h1 h2 => f26 x (by omega))
  have hobn := RNa.ob
  refine x_aload_n (pc := 29) dX2_coverFrom_29 rfl ?_
  refine x_gf (pc := 30) dX2_coverFrom_30 fX2_35 (by assumption) (by omega) ?_
  refine x_iconst (pc := 33) dX2_coverFrom_33 ?_
  refine x_aload_n (pc := 34) dX2_coverFrom_34 rfl ?_
  refine x_gn (pc := 35) dX2_coverFrom_35 fX2_69 (by assumption) (by omega) ?_
  refine x_iload_n (pc := 38) dX2_coverFrom_38 rfl ?_
  refine x_il (pc := 39) dX2_coverFrom_39 (by assumption) (by omega) rfl (by omega) ?_
  rw [hsi.1]
  refine x_p2 (pc := 40) dX2_coverFrom_40 wX3_start iX3_start kX2_78 (by decide) rfl (Nat.le_of_ble_eq_true rfl) hobn (by omega) (t_start RNa (x := 0) (by omega) (by omega) (by omega)) (fun h40 e40 => ?_)
  obtain ⟨f40, hd2, RN2, n4⟩ := e40
  rw [show min 0 4 = 0 by omega, show min (s i0) 8 = s i0 by omega] at RN2
  have Pb := Pa.keep (f40 36 (by omega))
  have Lb := La.keep (fun x h1 h2 => f40 x (by omega))
  obtain ⟨F0, F1, F2, F3, F4, F5, F6⟩ := id Pb
  have RW2 := RW1.keep (fun x h1 h2 => f40 x (by omega))
  have CAb := (CAz.keep (fun x h1 h2 => f26 x (by omega))).keep (fun x h1 h2 => f40 x (by omega))
  have kW := whole_K hf hpl.1 hB (by omega) rfl hsi.2 hMw RW2 w1 w2 w3 w4
  have kN : RwK f h40 bn p 0 (s i0) _ := noth_K (Lf := Lw w) (R := R) (st := st) (en := en) (x := x) hMn hsi.2 RN2 n4
  have fw := kW.flds
  obtain ⟨⟨gk2, CB1, CB2⟩, CB3⟩ := id CAb
  have hrow2 := CB3 (i0 + 1) (by omega)
  rw [show 37 + 1 + (i0 + 1) = 39 + i0 by omega, up_s] at hrow2
  refine x_aload (pc := 43) dX2_coverFrom_43 rfl ?_
  refine x_iload_n (pc := 45) dX2_coverFrom_45 rfl ?_
  refine x_iconst (pc := 46) dX2_coverFrom_46 ?_
  refine x_iadd (pc := 47) dX2_coverFrom_47 ?_
  refine x_aload_n (pc := 48) dX2_coverFrom_48 rfl ?_
  refine x_gf (pc := 49) dX2_coverFrom_49 fX2_32 (by assumption) (by omega) ?_
  refine x_gn (pc := 52) dX2_coverFrom_52 fX2_81 (by assumption) (by omega) ?_
  refine x_is (pc := 55) (j := i0 + 1) dX2_coverFrom_55 (by assumption) (by omega) (by omega) (by omega) ?_
  have CAc := CAb.put (i := i0 + 1) (g := up (fun j => if j < 10 then 0 else Kc (i0 + 1) j) (i0 + 1) (s i0 : Int)) (by omega)
  rw [show 38 + (i0 + 1) = 39 + i0 by omega, up_up] at CAc
  have ecov : s i0 = cov R st en i0 i0 := by
    have ecw := kW.cnt hf hP ((hB.2.2.2.1 i0 (by omega)).cgA (fun r _ z => by unfold Cw at z; simp only [Bool.and_eq_true, decide_eq_true_eq] at z; exact z.1))
    have ecn := kN.cnt hf hP ((hB.2.2.2.1 i0 (by omega)).cgA (fun r _ z => by unfold Cn at z; simp only [Bool.and_eq_true, decide_eq_true_eq] at z; exact z.1))
    have := cnt_wn (Lf := Lw w) (st := st) (en := en) (Nat.le_refl i0) R
    omega
  refine x_iload_n (pc := 56) dX2_coverFrom_56 rfl ?_
  refine x_istore (pc := 57) dX2_coverFrom_57 (by decide) rfl ?_
  show Ex _ _ _ _ _ _ [_, _, _, _, _, _] _ _ _ _
  refine k_cov (d := d) hf hz hP ha hw hs hn hB hN (i0 := i0) (la := la) hla i0 hil (Nat.le_refl _) _ _ bw bn bx (s i0) 0 (Lb.keep (fun x h1 h2 => up_n _ _ (by omega))) (Pb.keep (up_n _ _ (by omega))) CAc (((RCz.keep (fun x h1 h2 => f26 x (by omega))).keep (fun x h1 h2 => f40 x (by omega))).keep (fun x h1 h2 => up_n _ _ (by omega))) (kW.keep (fun x h1 h2 => up_n _ _ (by omega))) (kN.keep (fun x h1 h2 => up_n _ _ (by omega))) (((RXz.keep (fun x h1 h2 => f26 x (by omega))).keep (fun x h1 h2 => f40 x (by omega))).keep (fun x h1 h2 => up_n _ _ (by omega))) i1 i2 i3 n1 n2 n3 (fun j hj => ?_) (fun h K1 f1 p1 e0 e1 => ⟨rfl, rfl, fun x hx => (f1 x hx).trans ((up_n _ _ (by omega)).trans ((f40 x (by omega)).trans ((f26 x (by omega)).trans (Fz x hx)))), K1, p1, fun i hi => (e0 i hi).trans (up_n _ _ hi), e1⟩)
  rw [up_s]
  by_cases e : j = i0 + 1
  · subst e
    rw [up_s, if_pos ⟨by omega, by omega⟩, show i0 + 1 - 1 = i0 by omega, ← ecov]
  · rw [up_n _ _ e, if_pos hj, if_neg (by omega)]

theorem PaX.ob {h : HP} {p N : Nat} {Kc : Nat → Nat → Int} (P : PaX h p N Kc) : isob h 36 2 := by
  obtain ⟨bw, bn, bx, P, -⟩ := P
  exact P.1.ob
set_option maxRecDepth 4000 in
theorem t_covering {K : Type} [Lean.Grind.CommRing K] {f : Int → K} {G : GL} {d : Nat} {sz p N : Nat} (hf : Iot p f) (hz : 92 ≤ sz) (hP : isP p) {a w : Nat} (ha : 2 ≤ a ∧ a ≤ 26) (hw : w < 128) {s' n : Nat → Int} {s : Nat → Nat} (hs : cs8 s' s) (hn : inL n p) {R : Nat} {st en : Nat → Nat} {x : Nat → Nat → Nat → K} (hB : Bar N 4 s (Lw w) (TK f n (Lw w) s 0) R st en x) (hN : 1 ≤ N ∧ N ≤ 8) {i0 la : Nat} (hil : i0 ≤ la) (hla : la < N) {hp : HP} (L : Lay hp a s' n w) {Kc : Nat → Nat → Int} (PX : PaX hp p N Kc) : Ct G (d + 5) 0 0 mX2_covering [vr 36, vr a, vi i0, vi la] hp sz (Vs (fun v h => v = vi (cov R st en i0 la : Nat) ∧ Fr hp h 36 75 ∧ ∃ K1, PaX h p N K1 ∧ ∀ j, j < 10 → K1 0 j = Kc 0 j) sz) := by
  show Ex _ _ _ _ _ _ [vr 36, vr a, vi i0, vi la] _ _ _ _
  refine x_aload_n (pc := 0) dX2_covering_0 rfl ?_
  refine x_aload_n (pc := 1) dX2_covering_1 rfl ?_
  refine x_iload_n (pc := 2) dX2_covering_2 rfl ?_
  refine x_iload_n (pc := 3) dX2_covering_3 rfl ?_
  refine x_p3 (pc := 4) dX2_covering_4 wX2_coverFrom iX2_coverFrom kX2_41 (by decide) rfl (Nat.le_of_ble_eq_true rfl) PX.ob (by omega) (t_coverFrom (d := d) hf hz hP ha hw hs hn hB hN hil hla L PX) (fun h4 e4 => ?_)
  obtain ⟨f4, K1, PX1, k1, k2⟩ := e4
  obtain ⟨bw, bn, bx, P, CA, prest⟩ := id PX1
  obtain ⟨F0, F1, F2, F3, F4, F5, F6⟩ := id P
  obtain ⟨⟨gk, CA1, CA2⟩, CA3⟩ := id CA
  have hrow := CA3 (i0 + 1) (by omega)
  rw [show 37 + 1 + (i0 + 1) = 39 + i0 by omega] at hrow
  have hg := CA2 (i0 + 1) (by omega)
  rw [show 37 + 1 + (i0 + 1) = 39 + i0 by omega] at hg
  refine x_aload_n (pc := 7) dX2_covering_7 rfl ?_
  refine x_gf (pc := 8) dX2_covering_8 fX2_11 (by assumption) (by omega) ?_
  refine x_iload_n (pc := 11) dX2_covering_11 rfl ?_
  refine x_iconst (pc := 12) dX2_covering_12 ?_
  refine x_iadd (pc := 13) dX2_covering_13 ?_
  refine x_al (pc := 14) (j := i0 + 1) dX2_covering_14 (by assumption) (by omega) (by omega) (by omega) hg ?_
  refine x_iload_n (pc := 15) dX2_covering_15 rfl ?_
  refine x_iconst (pc := 16) dX2_covering_16 ?_
  refine x_iadd (pc := 17) dX2_covering_17 ?_
  refine x_il (pc := 18) (j := la + 1) dX2_covering_18 (by assumption) (by omega) (by omega) (by omega) ?_
  rw [k2 (la + 1) (by omega), if_pos ⟨by omega, by omega⟩, show la + 1 - 1 = la by omega]
  refine x_iret (pc := 19) dX2_covering_19 rfl ⟨_, rfl, rfl, rfl, f4, K1, PX1, fun j hj => by rw [k1 0 (by omega)]⟩

theorem tbc_mul {N R : Nat} {st en : Nat → Nat} (hen : ∀ r, r < R → en r < N) {i0 i1 : Nat} (h01 : i0 ≤ i1) (hi1 : i1 < N) {K1 : Nat → Nat → Int} (ha : ∀ j, j < 10 → K1 (i0 + 1) j = if i0 + 1 ≤ j ∧ j ≤ min (i1 + 1) (N - 1) + 1 then (cov R st en i0 (j - 1) : Int) else 0) (hb : (i0 = 0 ∧ ∀ j, j < 10 → K1 0 j = 0) ∨ (0 < i0 ∧ ∀ j, j < 10 → K1 i0 j = if i0 ≤ j ∧ j ≤ min (i1 + 1) (N - 1) + 1 then (cov R st en (i0 - 1) (j - 1) : Int) else 0)) (hN : N ≤ 8) : K1 (i0 + 1) (i1 + 1) - K1 i0 (i1 + 1) - K1 (i0 + 1) (i1 + 2) + K1 i0 (i1 + 2) = (mul R st en i0 i1 : Nat) := by
  have hA : ∀ a' (g : Nat → Int), (∀ j, j < 10 → g j = if a' + 1 ≤ j ∧ j ≤ min (i1 + 1) (N - 1) + 1 then (cov R st en a' (j - 1) : Int) else 0) → a' ≤ i1 → g (i1 + 1) = cov R st en a' i1 ∧ g (i1 + 2) = cov R st en a' (i1 + 1) := fun a' g hg hle => by
    refine ⟨by rw [hg _ (by omega), if_pos (by omega), show i1 + 1 - 1 = i1 by omega], ?_⟩
    rw [hg _ (by omega)]
    by_cases e : i1 + 1 = N
    · rw [if_neg (by omega), e, cov_top hen]; rfl
    · rw [if_pos (by omega), show i1 + 2 - 1 = i1 + 1 by omega]
  obtain ⟨a1, a2⟩ := hA i0 _ ha h01
  rcases hb with ⟨e0, h0⟩ | ⟨e0, h0⟩
  · subst e0
    rw [a1, a2, h0 _ (by omega), h0 _ (by omega), mul_0]
    omega
  · obtain ⟨a', rfl⟩ : ∃ a', i0 = a' + 1 := ⟨i0 - 1, by omega⟩
    rw [show a' + 1 - 1 = a' by omega] at h0
    obtain ⟨b1, b2⟩ := hA a' _ h0 (by omega)
    rw [a1, a2, b1, b2, mul_s]

set_option maxRecDepth 4000 in
theorem t_times {K : Type} [Lean.Grind.CommRing K] {f : Int → K} {G : GL} {d : Nat} {sz p N : Nat} (hf : Iot p f) (hz : 92 ≤ sz) (hP : isP p) {a w : Nat} (ha : 2 ≤ a ∧ a ≤ 26) (hw : w < 128) {s' n : Nat → Int} {s : Nat → Nat} (hs : cs8 s' s) (hn : inL n p) {R : Nat} {st en : Nat → Nat} {x : Nat → Nat → Nat → K} (hB : Bar N 4 s (Lw w) (TK f n (Lw w) s 0) R st en x) (hN : 1 ≤ N ∧ N ≤ 8) {i0 i1 : Nat} (h01 : i0 ≤ i1) (hi1 : i1 < N) {hp : HP} (L : Lay hp a s' n w) {Kc : Nat → Nat → Int} (PX : PaX hp p N Kc) (hz0 : ∀ j, j < 10 → Kc 0 j = 0) : Ct G (d + 5) 0 0 mX2_times [vr 36, vr a, vi i0, vi i1] hp sz (Vs (fun v h => v = vi (mul R st en i0 i1 : Nat) ∧ Fr hp h 36 75 ∧ ∃ K1, PaX h p N K1 ∧ ∀ j, j < 10 → K1 0 j = 0) sz) := by
  show Ex _ _ _ _ _ _ [vr 36, vr a, vi i0, vi i1, vu] _ _ _ _
  have hob0 := PX.ob
  have F1 : fld hp 36 2 1 (vi N) := by obtain ⟨bw, bn, bx, P, -⟩ := id PX; exact P.2.1
  refine x_iload_n (pc := 0) dX2_times_0 rfl ?_
  refine x_iconst (pc := 1) dX2_times_1 ?_
  refine x_iadd (pc := 2) dX2_times_2 ?_
  refine x_aload_n (pc := 3) dX2_times_3 rfl ?_
  refine x_gf (pc := 4) dX2_times_4 fX2_20 (by assumption) (by omega) ?_
  refine x_iconst (pc := 7) dX2_times_7 ?_
  refine x_isub (pc := 8) dX2_times_8 ?_
  refine x_t2 (pc := 9) dX2_times_9 wJ9_min_7cf53 sJ9_min_7cf53 kX2_58 (by decide) rfl (Nat.le_of_ble_eq_true rfl) (t_min (by omega) (by omega)) ?_
  rw [show min ((i1 : Int) + 1) ((N : Int) - 1) = (((min (i1 + 1) (N - 1)) : Nat) : Int) by omega]
  refine x_istore (pc := 12) dX2_times_12 (by decide) rfl ?_
  show Ex _ _ _ _ _ _ [_, _, _, _, _] _ _ _ _
  refine x_iload_n (pc := 14) dX2_times_14 rfl ?_
  refine x_if_le (pc := 15) (tgt := 28) dX2_times_15 (by decide) (by omega) (fun c15 => ?_) (fun c15 => ?_)
  · first
      | (refine x_aload_n (pc := 28) dX2_times_28 rfl ?_
         refine x_aload_n (pc := 29) dX2_times_29 rfl ?_
         refine x_iload_n (pc := 30) dX2_times_30 rfl ?_
         refine x_iload (pc := 31) dX2_times_31 rfl ?_
         refine x_p3 (pc := 33) dX2_times_33 wX2_coverFrom iX2_coverFrom kX2_41 (by decide) rfl (Nat.le_of_ble_eq_true rfl) hob1 (by omega) (t_coverFrom (d := d) hf hz hP ha hw hs hn hB hN (i0 := i0) (la := (min (i1 + 1) (N - 1))) (by omega) (by omega) L9 PX1) (fun h33 e33 => ?_)
         obtain ⟨f33, K2, PX2, k3, k4⟩ := e33
         obtain ⟨bw, bn, bx, P, CA, prest⟩ := id PX2
         obtain ⟨F0, F1, F2, F3, F4, F5, F6⟩ := id P
         have hob2 := F0.ob
         refine x_aload_n (pc := 36) dX2_times_36 rfl ?_
         refine x_iload_n (pc := 37) dX2_times_37 rfl ?_
         refine x_iload_n (pc := 38) dX2_times_38 rfl ?_
         refine x_w2 (pc := 39) dX2_times_39 wX2_timesByCovers iX2_timesByCovers kX2_50 (by decide) rfl (Nat.le_of_ble_eq_true rfl) hob2 (by omega) (t_tbc F2 CA (by omega) (by omega) (by omega)) ?_
         rw [tbc_mul (fun r hr => (hB.1 r hr).2) h01 hi1 k4 (Or.inr ⟨by omega, fun j hj => by rw [k3 _ (by omega)]; have := k2 j hj; rw [show i0 - 1 + 1 = i0 by omega] at this; exact this⟩) hN.2]
         refine x_iret (pc := 42) dX2_times_42 rfl ⟨_, rfl, rfl, rfl, f25.tr f33, K2, PX2, fun j hj => by rw [k3 0 (by omega), k1 0 (by omega)]; exact hz0 j hj⟩)
      | (refine x_aload_n (pc := 28) dX2_times_28 rfl ?_
         refine x_aload_n (pc := 29) dX2_times_29 rfl ?_
         refine x_iload_n (pc := 30) dX2_times_30 rfl ?_
         refine x_iload (pc := 31) dX2_times_31 rfl ?_
         refine x_p3 (pc := 33) dX2_times_33 wX2_coverFrom iX2_coverFrom kX2_41 (by decide) rfl (Nat.le_of_ble_eq_true rfl) hob0 (by omega) (t_coverFrom (d := d) hf hz hP ha hw hs hn hB hN (i0 := i0) (la := (min (i1 + 1) (N - 1))) (by omega) (by omega) L PX) (fun h33 e33 => ?_)
         obtain ⟨f33, K2, PX2, k3, k4⟩ := e33
         obtain ⟨bw, bn, bx, P, CA, prest⟩ := id PX2
         obtain ⟨F0, F1, F2, F3, F4, F5, F6⟩ := id P
         have hob2 := F0.ob
         refine x_aload_n (pc := 36) dX2_times_36 rfl ?_
         refine x_iload_n (pc := 37) dX2_times_37 rfl ?_
         refine x_iload_n (pc := 38) dX2_times_38 rfl ?_
         refine x_w2 (pc := 39) dX2_times_39 wX2_timesByCovers iX2_timesByCovers kX2_50 (by decide) rfl (Nat.le_of_ble_eq_true rfl) hob2 (by omega) (t_tbc F2 CA (by omega) (by omega) (by omega)) ?_
         rw [tbc_mul (fun r hr => (hB.1 r hr).2) h01 hi1 k4 (Or.inl ⟨by omega, fun j hj => by rw [k3 _ (by omega)]; exact hz0 j hj⟩) hN.2]
         refine x_iret (pc := 42) dX2_times_42 rfl ⟨_, rfl, rfl, rfl, f33, K2, PX2, fun j hj => by rw [k3 0 (by omega)]; exact hz0 j hj⟩)
  · refine x_aload_n (pc := 18) dX2_times_18 rfl ?_
    refine x_aload_n (pc := 19) dX2_times_19 rfl ?_
    refine x_iload_n (pc := 20) dX2_times_20 rfl ?_
    refine x_iconst (pc := 21) dX2_times_21 ?_
    refine x_isub (pc := 22) dX2_times_22 ?_
    rw [show (i0 : Int) - 1 = ((i0 - 1 : Nat) : Int) by omega]
    refine x_iload (pc := 23) dX2_times_23 rfl ?_
    refine x_p3 (pc := 25) dX2_times_25 wX2_coverFrom iX2_coverFrom kX2_41 (by decide) rfl (Nat.le_of_ble_eq_true rfl) (by assumption) (by omega) (t_coverFrom (d := d) hf hz hP ha hw hs hn hB hN (i0 := i0 - 1) (la := (min (i1 + 1) (N - 1))) (by omega) (by omega) L PX) (fun h25 e25 => ?_)
    obtain ⟨f25, K1, PX1, k1, k2⟩ := e25
    have L9 := L.keep (fun x h1 h2 => f25 x (by omega))
    have hob1 := PX1.ob
    first
      | (refine x_aload_n (pc := 28) dX2_times_28 rfl ?_
         refine x_aload_n (pc := 29) dX2_times_29 rfl ?_
         refine x_iload_n (pc := 30) dX2_times_30 rfl ?_
         refine x_iload (pc := 31) dX2_times_31 rfl ?_
         refine x_p3 (pc := 33) dX2_times_33 wX2_coverFrom iX2_coverFrom kX2_41 (by decide) rfl (Nat.le_of_ble_eq_true rfl) hob1 (by omega) (t_coverFrom (d := d) hf hz hP ha hw hs hn hB hN (i0 := i0) (la := (min (i1 + 1) (N - 1))) (by omega) (by omega) L9 PX1) (fun h33 e33 => ?_)
         obtain ⟨f33, K2, PX2, k3, k4⟩ := e33
         obtain ⟨bw, bn, bx, P, CA, prest⟩ := id PX2
         obtain ⟨F0, F1, F2, F3, F4, F5, F6⟩ := id P
         have hob2 := F0.ob
         refine x_aload_n (pc := 36) dX2_times_36 rfl ?_
         refine x_iload_n (pc := 37) dX2_times_37 rfl ?_
         refine x_iload_n (pc := 38) dX2_times_38 rfl ?_
         refine x_w2 (pc := 39) dX2_times_39 wX2_timesByCovers iX2_timesByCovers kX2_50 (by decide) rfl (Nat.le_of_ble_eq_true rfl) hob2 (by omega) (t_tbc F2 CA (by omega) (by omega) (by omega)) ?_
         rw [tbc_mul (fun r hr => (hB.1 r hr).2) h01 hi1 k4 (Or.inr ⟨by omega, fun j hj => by rw [k3 _ (by omega)]; have := k2 j hj; rw [show i0 - 1 + 1 = i0 by omega] at this; exact this⟩) hN.2]
         refine x_iret (pc := 42) dX2_times_42 rfl ⟨_, rfl, rfl, rfl, f25.tr f33, K2, PX2, fun j hj => by rw [k3 0 (by omega), k1 0 (by omega)]; exact hz0 j hj⟩)
      | (refine x_aload_n (pc := 28) dX2_times_28 rfl ?_
         refine x_aload_n (pc := 29) dX2_times_29 rfl ?_
         refine x_iload_n (pc := 30) dX2_times_30 rfl ?_
         refine x_iload (pc := 31) dX2_times_31 rfl ?_
         refine x_p3 (pc := 33) dX2_times_33 wX2_coverFrom iX2_coverFrom kX2_41 (by decide) rfl (Nat.le_of_ble_eq_true rfl) hob0 (by omega) (t_coverFrom (d := d) hf hz hP ha hw hs hn hB hN (i0 := i0) (la := (min (i1 + 1) (N - 1))) (by omega) (by omega) L PX) (fun h33 e33 => ?_)
         obtain ⟨f33, K2, PX2, k3, k4⟩ := e33
         obtain ⟨bw, bn, bx, P, CA, prest⟩ := id PX2
         obtain ⟨F0, F1, F2, F3, F4, F5, F6⟩ := id P
         have hob2 := F0.ob
         refine x_aload_n (pc := 36) dX2_times_36 rfl ?_
         refine x_iload_n (pc := 37) dX2_times_37 rfl ?_
         refine x_iload_n (pc := 38) dX2_times_38 rfl ?_
         refine x_w2 (pc := 39) dX2_times_39 wX2_timesByCovers iX2_timesByCovers kX2_50 (by decide) rfl (Nat.le_of_ble_eq_true rfl) hob2 (by omega) (t_tbc F2 CA (by omega) (by omega) (by omega)) ?_
         rw [tbc_mul (fun r hr => (hB.1 r hr).2) h01 hi1 k4 (Or.inl ⟨by omega, fun j hj => by rw [k3 _ (by omega)]; exact hz0 j hj⟩) hN.2]
         refine x_iret (pc := 42) dX2_times_42 rfl ⟨_, rfl, rfl, rfl, f33, K2, PX2, fun j hj => by rw [k3 0 (by omega)]; exact hz0 j hj⟩)

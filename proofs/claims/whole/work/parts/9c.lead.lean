/-- the Parting at 36: its fields -/
def PaF (h : HP) (p N bw bn bx : Nat) : Prop := fld h 36 2 0 (vi p) ∧ fld h 36 2 1 (vi N) ∧ fld h 36 2 2 (vr 37) ∧ fld h 36 2 3 (vr 48) ∧ fld h 36 2 4 (vr bw) ∧ fld h 36 2 5 (vr bn) ∧ fld h 36 2 6 (vr bx)
theorem PaF.keep {h h' : HP} {p N bw bn bx : Nat} (a : PaF h p N bw bn bx) (e : h' 36 = h 36) : PaF h' p N bw bn bx := by
  obtain ⟨a0, a1, a2, a3, a4, a5, a6⟩ := a
  exact ⟨a0.keep e, a1.keep e, a2.keep e, a3.keep e, a4.keep e, a5.keep e, a6.keep e⟩
theorem PaF.pw {h h' : HP} {p N bw bn bx b : Nat} (a : PaF h p N bw bn bx) (e : pf h 36 2 4 (vr b) h') : PaF h' p N b bn bx := by
  obtain ⟨a0, a1, a2, a3, a4, a5, a6⟩ := a
  exact ⟨e.2.2 _ _ (by decide) a0, e.2.2 _ _ (by decide) a1, e.2.2 _ _ (by decide) a2, e.2.2 _ _ (by decide) a3, e.2.1, e.2.2 _ _ (by decide) a5, e.2.2 _ _ (by decide) a6⟩
theorem PaF.pn {h h' : HP} {p N bw bn bx b : Nat} (a : PaF h p N bw bn bx) (e : pf h 36 2 5 (vr b) h') : PaF h' p N bw b bx := by
  obtain ⟨a0, a1, a2, a3, a4, a5, a6⟩ := a
  exact ⟨e.2.2 _ _ (by decide) a0, e.2.2 _ _ (by decide) a1, e.2.2 _ _ (by decide) a2, e.2.2 _ _ (by decide) a3, e.2.2 _ _ (by decide) a4, e.2.1, e.2.2 _ _ (by decide) a6⟩
theorem PaF.px {h h' : HP} {p N bw bn bx b : Nat} (a : PaF h p N bw bn bx) (e : pf h 36 2 6 (vr b) h') : PaF h' p N bw bn b := by
  obtain ⟨a0, a1, a2, a3, a4, a5, a6⟩ := a
  exact ⟨e.2.2 _ _ (by decide) a0, e.2.2 _ _ (by decide) a1, e.2.2 _ _ (by decide) a2, e.2.2 _ _ (by decide) a3, e.2.2 _ _ (by decide) a4, e.2.2 _ _ (by decide) a5, e.2.1⟩
def in3 (b : Nat) : Prop := b = 55 ∨ b = 62 ∨ b = 69
def RwX (h : HP) (b p : Nat) : Prop := ∃ M hd c w, RowsA h b p M hd c w ∧ inP M p
theorem RwX.keep {h h' : HP} {b p : Nat} (r : RwX h b p) (e : ∀ x, b ≤ x → x ≤ b + 6 → h' x = h x) : RwX h' b p := by
  obtain ⟨M, hd, c, w, a1, a2⟩ := r
  exact ⟨M, hd, c, w, a1.keep e, a2⟩
theorem RwK.X {K : Type} [Lean.Grind.CommRing K] {f : Int → K} {h : HP} {b p c w : Nat} {V : (Nat → K) → Prop} (r : RwK f h b p c w V) : RwX h b p := by
  obtain ⟨M, hd, a1, a2, -⟩ := r
  exact ⟨M, hd, c, w, a1, a2⟩
def cs8 (s' : Nat → Int) (s : Nat → Nat) : Prop := ∀ k, k < 8 → s' k = (s k : Int) ∧ s k ≤ 4
theorem inP_lead {M2 M3 : Nat → Nat → Int} {p c w : Nat} {g : Nat → Nat → Int} (h : inP M2 p) (hp : 0 < p) (e : ∀ x z, M3 x z = if x < c ∧ z < w then (g x z) % p else M2 x z) : inP M3 p := by
  intro i j hi hj
  rw [e i j]
  split
  · exact emod_rg hp
  · exact h i j hi hj

theorem k_lead9 {K : Type} [Lean.Grind.CommRing K] {f : Int → K} {G : GL} {d : Nat} {sz p N : Nat} (hf : Iot p f) (hz : 92 ≤ sz) (hP : isP p) {a k b1 bw bn bx : Nat} (hk : k < 7) (hb1 : in3 b1) (hb1x : b1 ≠ bx) (hxx : in3 bx) {s : Nat → Nat} (hs4 : s (k + 1) ≤ 4) {hp h : HP} {M : Nat → Nat → Int} {hd : Nat → Int} {c : Nat} (hc : c ≤ 4) (RX : RowsA h bx p M hd c (s (k + 1))) (hM : inP M p) (hdm : ∀ j, j < 8 → hd j = -1) (P : PaF h p N bw bn bx) (RC : RwX h 48 p) {V : (Nat → K) → Prop} (hL : ∀ v, Spn c (fun _ => True) (fun r => tr (s (k + 1)) f (M r)) v ↔ V v) (FFF : ∀ x, x ≠ 36 → (x < 48 ∨ 54 < x) → (x < bx ∨ bx + 6 < x) → h x = hp x) : Ex G (d + 3) 0 0 mX2_lead 46 [vr 36, vr a, vi k, vr b1, vr bx] [] h sz (Vs (fun v h => v = vr bx ∧ PaF h p N bw bn b1 ∧ RwX h 48 p ∧ (∃ c1, RwK f h bx p c1 (s (k + 1)) (V)) ∧ ∀ x, x ≠ 36 → (x < 48 ∨ 54 < x) → (x < bx ∨ bx + 6 < x) → h x = hp x) sz) := by
  unfold in3 at hb1 hxx
  have hobX := RX.ob
  refine x_aload (pc := 46) dX2_lead_46 rfl ?_
  refine x_p0 (pc := 48) dX2_lead_48 wX3_bringToLeast iX3_bringToLeast kX2_96 (by decide) rfl (Nat.le_of_ble_eq_true rfl) hobX (by omega) (t_bringR RX (by omega) hc (by omega) hP hM hdm) (fun h48 e48 => ?_)
  obtain ⟨f48, M4, hd4, c4, RX4, hM4, hc4, hRf4, hS4⟩ := e48
  have P48 := P.keep (f48 36 (by omega))
  have hob48 := P48.1.ob
  refine x_aload_n (pc := 51) dX2_lead_51 rfl ?_
  refine x_aload_n (pc := 52) dX2_lead_52 rfl ?_
  refine x_pfo (pc := 53) dX2_lead_53 pX2_38 hob48 (by omega) (fun hp53 hf53 => ?_)
  have P53 := P48.px hf53
  refine x_aload (pc := 56) dX2_lead_56 rfl ?_
  refine x_aret (pc := 58) dX2_lead_58 rfl (Or.inl ⟨_, rfl⟩) ⟨_, rfl, rfl, rfl, P53, (RC.keep (fun x h1 h2 => (hf53.1 x (by omega)).trans (f48 x (by omega)))), ⟨c4, M4, hd4, RX4.keep (fun x h1 h2 => hf53.1 x (by omega)), hM4, hRf4, by omega, fun v => (Sp_iff hf hS4 v).trans (hL v)⟩, fun x q1 q2 q3 => (hf53.1 x q1).trans ((f48 x q3).trans (FFF x q1 q2 q3))⟩
set_option maxRecDepth 4000 in
theorem t_lead {K : Type} [Lean.Grind.CommRing K] {f : Int → K} {G : GL} {d : Nat} {sz p N : Nat} (hf : Iot p f) (hz : 92 ≤ sz) (hP : isP p) {a w : Nat} (ha : 2 ≤ a ∧ a ≤ 26) (hw : w < 128) {s' n : Nat → Int} {s : Nat → Nat} (hs : cs8 s' s) (hn : inL n p) {k b1 bw bn bx c1 : Nat} (hk : k < 7) (hb1 : in3 b1) (hb1x : b1 ≠ bx) (hxx : in3 bx) {hp : HP} (L : Lay hp a s' n w) (P : PaF hp p N bw bn bx) (RC0 : RwX hp 48 p) (RX0 : RwX hp bx p) {V : (Nat → K) → Prop} (RV : RwK f hp b1 p c1 (s k) V) : Ct G (d + 3) 0 0 mX2_lead [vr 36, vr a, vi k, vr b1] hp sz (Vs (fun v h => v = vr bx ∧ PaF h p N bw bn b1 ∧ RwX h 48 p ∧ (∃ c1, RwK f h bx p c1 (s (k + 1)) (Ldv 4 s (Lw w) (TK f n (Lw w) s 0) k V)) ∧ ∀ x, x ≠ 36 → (x < 48 ∨ 54 < x) → (x < bx ∨ bx + 6 < x) → h x = hp x) sz) := by
  show Ex _ _ _ _ _ _ [vr 36, vr a, vi k, vr b1, vu] _ _ _ _
  unfold in3 at hb1 hxx
  obtain ⟨M1, hd1, RA, hM1, hRf, hc4, hV⟩ := RV
  obtain ⟨Mc, hdc, cc, wc, RC, hMc⟩ := RC0
  obtain ⟨Mx, hdx, cx, wx, RX, hMx⟩ := RX0
  have hsk := hs k (by omega)
  have hsk1 := hs (k + 1) (by omega)
  obtain ⟨F0, F1, F2, F3, F4, F5, F6⟩ := id P
  have hob := F0.ob
  have hoL := L.ob
  refine x_aload_n (pc := 0) dX2_lead_0 rfl ?_
  refine x_gf (pc := 1) dX2_lead_1 fX2_38 (by assumption) (by omega) ?_
  refine x_astore (pc := 4) dX2_lead_4 (by decide) rfl ?_
  show Ex _ _ _ _ _ _ [_, _, _, _, _] _ _ _ _
  refine x_aload_n (pc := 6) dX2_lead_6 rfl ?_
  refine x_iload_n (pc := 7) dX2_lead_7 rfl ?_
  refine x_w1 (pc := 8) dX2_lead_8 wX0_isLeft iX0_isLeft kX2_88 (by decide) rfl (Nat.le_of_ble_eq_true rfl) (by assumption) (by omega) (t_isLeft L (by omega) (by omega) hw) ?_
  refine x_if_eq (pc := 11) (tgt := 37) dX2_lead_11 (by decide) (bz_rg _) (fun c11 => ?_) (fun c11 => ?_)
  · have hl : Lw w k = false := by show w.testBit k = false; cases hh : w.testBit k; rfl; (rw [hh] at c11; exact absurd c11 (by decide))
    refine x_aload_n (pc := 37) dX2_lead_37 rfl ?_
    refine x_aload_n (pc := 38) dX2_lead_38 rfl ?_
    refine x_iload_n (pc := 39) dX2_lead_39 rfl ?_
    refine x_aload_n (pc := 40) dX2_lead_40 rfl ?_
    refine x_aload (pc := 41) dX2_lead_41 rfl ?_
    refine x_p4 (pc := 43) dX2_lead_43 wX2_leadAlong iX2_leadAlong kX2_103 (by decide) rfl (Nat.le_of_ble_eq_true rfl) (by assumption) (by omega) (t_leadAlong L F0 RA RX (by omega) (by omega) (by omega) (by omega) hk hc4 hsk.2 hsk1.1 hsk1.2 hM1 hn hP (by omega) (by omega) (by omega)) (fun h43 e43 => ?_)
    obtain ⟨f43, M3, hd3, RX5, hdm3, e3⟩ := e43
    have hM3 := inP_lead hMx (show 0 < p by have := hP.le; omega) e3
    have P43 := P.keep (f43 36 (by omega))
    have hobX := RX5.ob
    first
      | (have hlr := lead_right hf hl hsk.2 (fun x z hx hz9 => (e3 x z).trans (if_pos ⟨hx, hz9⟩)) hV
         have FFF : ∀ x, x ≠ 36 → (x < 48 ∨ 54 < x) → (x < bx ∨ bx + 6 < x) → h43 x = hp x := fun x _ _ q => f43 x q
         have PP := P43
         exact k_lead9 hf hz hP (by omega) hb1 hb1x hxx hsk1.2 hc4 RX5 hM3 hdm3 PP ⟨_, _, _, _, RC.keep (fun x h1 h2 => f43 x (by omega)), hMc⟩ hlr FFF)
      | (have hll := lead_left hf hP hl hsk1.2 hRf hV ec hRf2 hS2 e3
         have FFF : ∀ x, x ≠ 36 → (x < 48 ∨ 54 < x) → (x < bx ∨ bx + 6 < x) → h31 x = hp x := fun x _ q1 q2 => (f31 x q2).trans ((f25 x q1).trans (f18 x q1))
         have PP := P31
         exact k_lead9 hf hz hP (by omega) hb1 hb1x hxx hsk1.2 (by omega) RX5 hM3 hdm3 PP ⟨_, _, _, _, RC4.keep (fun x h1 h2 => f31 x (by omega)), hM2⟩ hll FFF)
  · have hl : Lw w k = true := by show w.testBit k = true; cases hh : w.testBit k; (rw [hh] at c11; exact absurd rfl c11); rfl
    refine x_aload_n (pc := 14) dX2_lead_14 rfl ?_
    refine x_aload_n (pc := 15) dX2_lead_15 rfl ?_
    refine x_iload_n (pc := 16) dX2_lead_16 rfl ?_
    refine x_aload_n (pc := 17) dX2_lead_17 rfl ?_
    refine x_p3 (pc := 18) dX2_lead_18 wX2_findConditions iX2_findConditions kX2_92 (by decide) rfl (Nat.le_of_ble_eq_true rfl) (by assumption) (by omega) (t_findC L F0 F3 RA RC (by omega) (by omega) (by omega) (by omega) hk hsk.2 (hRf.1) hsk1.1 hsk1.2 hM1 hMc (hRf.hr hc4) hn hP (by omega) (by omega) (by omega)) (fun h18 e18 => ?_)
    obtain ⟨f18, Mc3, hdc3, RC3, hMc3, hdm, ec⟩ := e18
    have P18 := P.keep (f18 36 (by omega))
    obtain ⟨F0, F1, F2, F3, F4, F5, F6⟩ := id P18
    have hobC := RC3.ob
    refine x_aload_n (pc := 21) dX2_lead_21 rfl ?_
    refine x_gf (pc := 22) dX2_lead_22 fX2_28 (by assumption) (by omega) ?_
    refine x_p0 (pc := 25) dX2_lead_25 wX3_bringToLeast iX3_bringToLeast kX2_96 (by decide) rfl (Nat.le_of_ble_eq_true rfl) hobC (by omega) (t_bringR RC3 (by omega) (by omega) (by omega) hP hMc3 hdm) (fun h25 e25 => ?_)
    obtain ⟨f25, M2, hd2, c2, RC4, hM2, hc2, hRf2, hS2⟩ := e25
    have P25 := P18.keep (f25 36 (by omega))
    have hob25 := P25.1.ob
    obtain ⟨F0, F1, F2, F3, F4, F5, F6⟩ := id P25
    have RX4 := (RX.keep (fun x h1 h2 => f18 x (by omega))).keep (fun x h1 h2 => f25 x (by omega))
    refine x_aload_n (pc := 28) dX2_lead_28 rfl ?_
    refine x_aload (pc := 29) dX2_lead_29 rfl ?_
    refine x_p1 (pc := 31) dX2_lead_31 wX2_solveConditions iX2_solveConditions kX2_99 (by decide) rfl (Nat.le_of_ble_eq_true rfl) hob25 (by omega) (t_solveC F3 RC4 RX4 (by omega) (by omega) (by omega) hsk1.2 hRf2.1 hM2 hMx (hRf2.hr (by omega)) hP (by omega) (by omega)) (fun h31 e31 => ?_)
    obtain ⟨f31, M3, hd3, RX5, hM3, hdm3, e3⟩ := e31
    have P31 := P25.keep (f31 36 (by omega))
    have hobX := RX5.ob
    refine x_goto (pc := 34) (tgt := 46) dX2_lead_34 (by decide) ?_
    first
      | (have hlr := lead_right hf hl hsk.2 (fun x z hx hz9 => (e3 x z).trans (if_pos ⟨hx, hz9⟩)) hV
         have FFF : ∀ x, x ≠ 36 → (x < 48 ∨ 54 < x) → (x < bx ∨ bx + 6 < x) → h43 x = hp x := fun x _ _ q => f43 x q
         have PP := P43
         exact k_lead9 hf hz hP (by omega) hb1 hb1x hxx hsk1.2 hc4 RX5 hM3 hdm3 PP ⟨_, _, _, _, RC.keep (fun x h1 h2 => f43 x (by omega)), hMc⟩ hlr FFF)
      | (have hll := lead_left hf hP hl hsk1.2 hRf hV ec hRf2 hS2 e3
         have FFF : ∀ x, x ≠ 36 → (x < 48 ∨ 54 < x) → (x < bx ∨ bx + 6 < x) → h31 x = hp x := fun x _ q1 q2 => (f31 x q2).trans ((f25 x q1).trans (f18 x q1))
         have PP := P31
         exact k_lead9 hf hz hP (by omega) hb1 hb1x hxx hsk1.2 (by omega) RX5 hM3 hdm3 PP ⟨_, _, _, _, RC4.keep (fun x h1 h2 => f31 x (by omega)), hM2⟩ hll FFF)

theorem inQ.swp {M : Nat → Nat → Int} {m w p r k : Nat} (h : inQ m w M p) (hr : r < m) (hk : k < m) : inQ m w (swp M r k) p := by
  intro i j hi hj
  unfold _root_.Jvm.Pilot.@@N@@.swp
  split
  · exact h k j hk hj
  · split
    · exact h r j hr hj
    · exact h i j hi hj
theorem inQ.scq {M : Nat → Nat → Int} {m w p k : Nat} {x : Int} (h : inQ m w M p) (hp : 0 < p) : inQ m w (scq p w M k x) p := by
  intro i j hi hj
  unfold _root_.Jvm.Pilot.@@N@@.scq
  split
  · exact emod_rg hp
  · exact h i j hi hj
theorem inQ.clq {M : Nat → Nat → Int} {m w p k c : Nat} (h : inQ m w M p) (hp : 0 < p) : inQ m w (clq p w m M k c) p := by
  intro i j hi hj
  unfold _root_.Jvm.Pilot.@@N@@.clq
  split
  · exact emod_rg hp
  · exact h i j hi hj

theorem k_red1 {G : GL} {d : Nat} {sz p N : Nat} (hz : 615 ≤ sz) (hN : 1 ≤ N ∧ N ≤ 8) (hP : isP p) {m w : Nat} (hm : m ≤ 260) (hw : w ≤ 130) {Q : Option AV → HP → Nat → Prop} (J : Nat → Nat → (Nat → Nat → Int) → (Nat → Int) → Prop) (hsk : ∀ c k M ld, c < w → k < m → inQ m w M p → J c k M ld → (∀ i, k ≤ i → i < m → M i c = 0) → J (c + 1) k M ld) (hpv : ∀ c k M ld (r x : Nat), c < w → k < m → inQ m w M p → J c k M ld → k ≤ r → r < m → M r c ≠ 0 → (∀ i, k ≤ i → i < r → M i c = 0) → (x : Int) < p → ((x : Int) * M r c) % p = 1 → J (c + 1) (k + 1) (elq p w m M r k x c) (up ld k (c : Int))) : ∀ c, c ≤ w → ∀ (hp : HP) (M : Nat → Nat → Int) (ld : Nat → Int) (k : Nat) (v3 v4 v5 v6 v7 v8 : AV) (g : Nat → Option Nat) (σ : Nat → Nat), k ≤ m → ModA hp p N → MoB hp M ld m w g σ → inQ m w M p → J c k M ld → (∀ h M1 ld1 k1 c1, ModA h p N → Fm hp h → MoA h M1 ld1 k1 w → inQ m w M1 p → J c1 k1 M1 ld1 → (c1 = w ∨ k1 = m) → k1 ≤ m → Q (some (vi k1)) h sz) → Ex G (d + 1) 0 0 mX7_reduce 4 [vr 92, vi k, vi c, v3, v4, v5, v6, v7, v8] [] hp sz Q := by
  have hpl := hP.le
  refine down (fun hp M ld k v3 v4 v5 v6 v7 v8 g σ hk C Mo hM hJ hq => ?_) (fun c hc9 ih hp M ld k v3 v4 v5 v6 v7 v8 g σ hk C Mo hM hJ hq => ?_)
  · obtain ⟨C0, C1, C2, C3, C4, C5, C6, C7, C8, C11, C12, C13, C14, C15, C16, C17, C18, C19, C20, C21, C22, C23⟩ := id C
    have hob := C0.ob
    obtain ⟨O1, O2, O3, O4, O5, O6⟩ := id Mo
    refine x_iload_n (pc := 4) dX7_reduce_4 rfl ?_
    refine x_aload_n (pc := 5) dX7_reduce_5 rfl ?_
    refine x_gf (pc := 6) dX7_reduce_6 fX7_149 (by assumption) (by omega) ?_
    refine x_icmp_ge (pc := 9) (tgt := 249) dX7_reduce_9 (by decide) (by omega) (by omega) (fun c9 => ?_) (fun c9 => ?_)
    · refine x_aload_n (pc := 249) dX7_reduce_249 rfl ?_
      refine x_iload_n (pc := 250) dX7_reduce_250 rfl ?_
      refine x_pfi (pc := 251) dX7_reduce_251 pX7_146 hob (by omega) (fun hp251 hf251 => ?_)
      have Mz := Mo.pfm (m' := k) hf251
      have Cz := C.pf hf251 (Or.inl rfl)
      refine x_iload_n (pc := 254) dX7_reduce_254 rfl ?_
      refine x_iret (pc := 255) dX7_reduce_255 rfl (hq hp251 M ld k w Cz (Fm.rf.pf hf251) ⟨g, σ, Mz⟩ hM hJ (Or.inl rfl) hk)
    · exact absurd c9 (by omega)
  · obtain ⟨C0, C1, C2, C3, C4, C5, C6, C7, C8, C11, C12, C13, C14, C15, C16, C17, C18, C19, C20, C21, C22, C23⟩ := id C
    have hob := C0.ob
    obtain ⟨O1, O2, O3, O4, O5, O6⟩ := id Mo
    refine x_iload_n (pc := 4) dX7_reduce_4 rfl ?_
    refine x_aload_n (pc := 5) dX7_reduce_5 rfl ?_
    refine x_gf (pc := 6) dX7_reduce_6 fX7_149 (by assumption) (by omega) ?_
    refine x_icmp_ge (pc := 9) (tgt := 249) dX7_reduce_9 (by decide) (by omega) (by omega) (fun c9 => ?_) (fun c9 => ?_)
    · exact absurd c9 (by omega)
    · refine x_iload_n (pc := 12) dX7_reduce_12 rfl ?_
      refine x_aload_n (pc := 13) dX7_reduce_13 rfl ?_
      refine x_gf (pc := 14) dX7_reduce_14 fX7_146 (by assumption) (by omega) ?_
      refine x_icmp_ge (pc := 17) (tgt := 249) dX7_reduce_17 (by decide) (by omega) (by omega) (fun c17 => ?_) (fun c17 => ?_)
      · have hk9 : k = m := by omega
        refine x_aload_n (pc := 249) dX7_reduce_249 rfl ?_
        refine x_iload_n (pc := 250) dX7_reduce_250 rfl ?_
        refine x_pfi (pc := 251) dX7_reduce_251 pX7_146 hob (by omega) (fun hp251 hf251 => ?_)
        have Mz := Mo.pfm (m' := k) hf251
        have Cz := C.pf hf251 (Or.inl rfl)
        refine x_iload_n (pc := 254) dX7_reduce_254 rfl ?_
        refine x_iret (pc := 255) dX7_reduce_255 rfl (hq hp251 M ld k c Cz (Fm.rf.pf hf251) ⟨g, σ, Mz⟩ hM hJ (Or.inr hk9) hk)
      · refine x_iload_n (pc := 20) dX7_reduce_20 rfl ?_
        refine x_istore_n (pc := 21) dX7_reduce_21 (by decide) rfl ?_
        show Ex _ _ _ _ _ _ [_, _, _, _, _, _, _, _, _] _ _ _ _
        refine k_red2 (d := d) (r := k) (c := c) hz hN hP hm hw (by omega) hc9 C Mo hM k (by omega) (fun q0 hq1 hq2 hq3 hq4 => ?_)
        refine x_iload_n (pc := 47) dX7_reduce_47 rfl ?_
        refine x_aload_n (pc := 48) dX7_reduce_48 rfl ?_
        refine x_gf (pc := 49) dX7_reduce_49 fX7_146 (by assumption) (by omega) ?_
        refine x_icmp_ne (pc := 52) (tgt := 58) dX7_reduce_52 (by decide) (by omega) (by omega) (fun c52 => ?_) (fun c52 => ?_)
        · have hk9 : k + 1 ≤ m := by omega
          have hlt : q0 < m := by omega
          have hne := hq4 hlt
          obtain ⟨a1, a2, a3, a4⟩ := Mo.lt (i := q0) (by omega)
          obtain ⟨b1, b2, b3, b4⟩ := Mo.lt (i := k) (by omega)
          refine x_aload_n (pc := 58) dX7_reduce_58 rfl ?_
          refine x_gf (pc := 59) dX7_reduce_59 fX7_27 (by assumption) (by omega) ?_
          refine x_iload_n (pc := 62) dX7_reduce_62 rfl ?_
          refine x_al (pc := 63) dX7_reduce_63 (by assumption) (by omega) rfl (by omega) (by assumption) ?_
          refine x_astore (pc := 64) dX7_reduce_64 (by decide) rfl ?_
          show Ex _ _ _ _ _ _ [_, _, _, _, _, _, _, _, _] _ _ _ _
          refine x_aload_n (pc := 66) dX7_reduce_66 rfl ?_
          refine x_gf (pc := 67) dX7_reduce_67 fX7_27 (by assumption) (by omega) ?_
          refine x_iload_n (pc := 70) dX7_reduce_70 rfl ?_
          refine x_aload_n (pc := 71) dX7_reduce_71 rfl ?_
          refine x_gf (pc := 72) dX7_reduce_72 fX7_27 (by assumption) (by omega) ?_
          refine x_iload_n (pc := 75) dX7_reduce_75 rfl ?_
          refine x_al (pc := 76) dX7_reduce_76 (by assumption) (by omega) rfl (by omega) (by assumption) ?_
          refine x_as (pc := 77) dX7_reduce_77 (by assumption) (by omega) rfl (by omega) (by omega) (by rw [b4]; exact rfl) ?_
          have C7' := C7.up (b := 98) (x := rr 5 260 (up g q0 (some (σ k)))) (by omega)
          have O4' := up_s hp 98 (rr 5 260 (up g q0 (some (σ k))))
          refine x_aload_n (pc := 78) dX7_reduce_78 rfl ?_
          refine x_gf (pc := 79) dX7_reduce_79 fX7_27 (by assumption) (by omega) ?_
          refine x_iload_n (pc := 82) dX7_reduce_82 rfl ?_
          refine x_aload (pc := 83) dX7_reduce_83 rfl ?_
          refine x_as (pc := 85) dX7_reduce_85 (by assumption) (by omega) rfl (by omega) (by omega) (by rw [up_n _ _ (by omega), a4]; exact rfl) ?_
          have MS := Mo.swap (i := q0) (k := k) (by omega) (by omega)
          have CS : ModA (up (up hp 98 (rr 5 260 (up g q0 (some (σ k))))) 98 (rr 5 260 (up (up g q0 (some (σ k))) k (some (σ q0))))) p N := (C.keep (up_n _ _ (by omega))).keep (up_n _ _ (by omega))
          have FS : Fm hp (up (up hp 98 (rr 5 260 (up g q0 (some (σ k))))) 98 (rr 5 260 (up (up g q0 (some (σ k))) k (some (σ q0))))) := (Fm.rf.up (by omega) (by omega)).up (by omega) (by omega)
          generalize up (up hp 98 (rr 5 260 (up g q0 (some (σ k))))) 98 (rr 5 260 (up (up g q0 (some (σ k))) k (some (σ q0)))) = hS at MS CS FS ⊢
          generalize hg2 : up (up g q0 (some (σ k))) k (some (σ q0)) = g2 at MS
          generalize hs2 : (fun j => if j = k then σ q0 else if j = q0 then σ k else σ j) = σ2 at MS
          have es : σ q0 = σ2 k := by rw [← hs2]; exact (if_pos rfl).symm
          rw [es]
          obtain ⟨d1, d2, d3, d4⟩ := MS.lt (i := k) (by omega)
          have hobS := CS.1.ob
          have hM2 := hM.swp (r := q0) (k := k) hlt (by omega)
          have hsw : swp M q0 k k c = M q0 c := by
            unfold swp
            by_cases h : k = q0
            · rw [if_pos h, h]
            · rw [if_neg h, if_pos rfl]
          refine x_aload_n (pc := 86) dX7_reduce_86 rfl ?_
          refine x_aload (pc := 87) dX7_reduce_87 rfl ?_
          refine x_iload_n (pc := 89) dX7_reduce_89 rfl ?_
          refine x_il (pc := 90) dX7_reduce_90 d4 (by omega) rfl (by omega) ?_
          refine x_y1 (pc := 91) dX7_reduce_91 wX7_inverse iX7_inverse kX7_152 (by decide) rfl (Nat.le_of_ble_eq_true rfl) hobS (by omega) (m_inv CS hz hN (v := swp M q0 k k c) hP (by rw [hsw]; have := hM q0 c hlt hc9; omega)) (fun v91 h91 e91 => ?_)
          obtain ⟨rfl, xi, rfl, hx1, hx2⟩ := e91
          rw [hsw] at hx2
          refine x_istore (pc := 94) dX7_reduce_94 (by decide) rfl ?_
          show Ex _ _ _ _ _ _ [_, _, _, _, _, _, _, _, _] _ _ _ _
          refine x_iconst (pc := 96) dX7_reduce_96 ?_
          refine x_istore (pc := 97) dX7_reduce_97 (by decide) rfl ?_
          show Ex _ _ _ _ _ _ [_, _, _, _, _, _, _, _, _] _ _ _ _
          refine k_red3 (d := d) (r := k) (c := c) (m := m) (w := w) (σ := σ2) (g := g2) (ld := ld) (x := (xi : Int)) hz hN hP hm hw (by omega) hc9 ⟨by omega, hx1⟩ 0 (by omega) _ (swp M q0 k) CS MS (fun j _ hj => hM2 k j (by omega) hj) (fun h99 M99 C99 m99 f99 e0 e1 e2 => ?_)
          obtain ⟨P1, P2, P3, P4, P5, P6⟩ := id m99
          have eM99 : M99 = scq p w (swp M q0 k) k (xi : Int) := by
            funext z j
            unfold scq
            by_cases e : z = k
            · subst e
              by_cases e5 : j < w
              · rw [e1 j (by omega) e5, if_pos ⟨rfl, e5⟩]
              · rw [e2 j (by omega), if_neg (fun q => e5 q.2)]
            · rw [e0 z e, if_neg (fun q => e q.1)]
          have hM99 : inQ m w M99 p := by rw [eM99]; exact hM2.scq (by omega)
          refine x_iconst (pc := 132) dX7_reduce_132 ?_
          refine x_istore (pc := 133) dX7_reduce_133 (by decide) rfl ?_
          show Ex _ _ _ _ _ _ [_, _, _, _, _, _, _, _, _] _ _ _ _
          refine k_red4 (d := d) (r := k) (c := c) (m := m) (w := w) (σ := σ2) (g := g2) (ld := ld) hz hN hP hm hw (by omega) hc9 0 (by omega) h99 M99 _ _ C99 m99 hM99 (fun h4 M4 v7 v8 C4 m4 f4 e4 => ?_)
          obtain ⟨P1, P2, P3, P4, P5, P6⟩ := id m4
          have hM4e : M4 = elq p w m M q0 k (xi : Int) c := by
            funext z j
            rw [e4 z j, eM99]
            unfold elq clq
            simp only [Nat.zero_le, true_and]
          rw [hM4e] at m4
          have hM5 : inQ m w (elq p w m M q0 k (xi : Int) c) p := ((hM.swp (r := q0) (k := k) hlt (by omega)).scq (k := k) (x := (xi : Int)) (by omega)).clq (k := k) (c := c) (by omega)
          have FF := (((FS.tr f99).tr f4).up (a := 359) (c := ar 0 260 (up ld k (c : Int))) (by omega) (by omega))
          have D8 := C4.2.2.2.2.2.2.2.2.1
          refine x_aload_n (pc := 233) dX7_reduce_233 rfl ?_
          refine x_gf (pc := 234) dX7_reduce_234 fX7_30 (by assumption) (by omega) ?_
          refine x_iload_n (pc := 237) dX7_reduce_237 rfl ?_
          refine x_iload_n (pc := 238) dX7_reduce_238 rfl ?_
          refine x_is (pc := 239) dX7_reduce_239 (by assumption) (by omega) rfl (by omega) ?_
          refine x_iinc (pc := 240) dX7_reduce_240 rfl (by decide) rfl ?_
          show Ex _ _ _ _ _ _ [_, _, _, _, _, _, _, _, _] _ _ _ _
          refine x_iinc (pc := 243) dX7_reduce_243 rfl (by decide) rfl ?_
          show Ex _ _ _ _ _ _ [_, _, _, _, _, _, _, _, _] _ _ _ _
          refine x_goto (pc := 246) (tgt := 4) dX7_reduce_246 (by decide) ?_
          exact ih _ _ (up ld k (c : Int)) (k + 1) _ _ _ _ _ _ _ _ hk9 (C4.keep (up_n _ _ (by omega))) m4.lds hM5 (hpv c k M ld q0 xi hc9 (by omega) hM hJ hq1 hlt hne hq3 hx1 hx2) (fun h M1 ld1 k1 p1 C1 f1 => hq h M1 ld1 k1 p1 C1 (FF.tr f1))
        · have hq5 : q0 = m := by omega
          refine x_goto (pc := 55) (tgt := 243) dX7_reduce_55 (by decide) ?_
          refine x_iinc (pc := 243) dX7_reduce_243 rfl (by decide) rfl ?_
          show Ex _ _ _ _ _ _ [_, _, _, _, _, _, _, _, _] _ _ _ _
          refine x_goto (pc := 246) (tgt := 4) dX7_reduce_246 (by decide) ?_
          exact ih _ _ _ k _ _ _ _ _ _ _ _ hk C Mo hM (hsk c k M ld hc9 (by omega) hM hJ (fun i h1 h2 => hq3 i h1 (by omega))) hq

set_option maxRecDepth 4000 in
theorem m_reduce {G : GL} {d : Nat} {hp : HP} {sz : Nat} {p N : Nat} (C : ModA hp p N) (hz : 615 ≤ sz) (hN : 1 ≤ N ∧ N ≤ 8) (hP : isP p) {M : Nat → Nat → Int} {ld : Nat → Int} {m w : Nat} (Mo : MoA hp M ld m w) (hm : m ≤ 260) (hw : w ≤ 130) (hM : inQ m w M p) (J : Nat → Nat → (Nat → Nat → Int) → (Nat → Int) → Prop) (h0 : J 0 0 M ld) (hsk : ∀ c k M ld, c < w → k < m → inQ m w M p → J c k M ld → (∀ i, k ≤ i → i < m → M i c = 0) → J (c + 1) k M ld) (hpv : ∀ c k M ld (r x : Nat), c < w → k < m → inQ m w M p → J c k M ld → k ≤ r → r < m → M r c ≠ 0 → (∀ i, k ≤ i → i < r → M i c = 0) → (x : Int) < p → ((x : Int) * M r c) % p = 1 → J (c + 1) (k + 1) (elq p w m M r k x c) (up ld k (c : Int))) : Ct G (d + 1) 0 0 mX7_reduce [vr 92] hp sz (Vs (fun v h => ModA h p N ∧ Fm hp h ∧ ∃ M1 ld1 k1 c1, v = vi (k1 : Nat) ∧ MoA h M1 ld1 k1 w ∧ inQ m w M1 p ∧ J c1 k1 M1 ld1 ∧ (c1 = w ∨ k1 = m) ∧ k1 ≤ m) sz) := by
  show Ex _ _ _ _ _ _ [vr 92, vu, vu, vu, vu, vu, vu, vu, vu] _ _ _ _
  obtain ⟨g, σ, Mo⟩ := Mo
  refine x_iconst (pc := 0) dX7_reduce_0 ?_
  refine x_istore_n (pc := 1) dX7_reduce_1 (by decide) rfl ?_
  show Ex _ _ _ _ _ _ [_, _, _, _, _, _, _, _, _] _ _ _ _
  refine x_iconst (pc := 2) dX7_reduce_2 ?_
  refine x_istore_n (pc := 3) dX7_reduce_3 (by decide) rfl ?_
  show Ex _ _ _ _ _ _ [_, _, _, _, _, _, _, _, _] _ _ _ _
  exact k_red1 hz hN hP hm hw J hsk hpv 0 (by omega) hp M ld 0 _ _ _ _ _ _ g σ (by omega) C Mo hM h0 (fun h M1 ld1 k1 c1 C1 f1 r1 m1 j1 e1 e2 => ⟨_, rfl, rfl, C1, f1, M1, ld1, k1, c1, rfl, r1, m1, j1, e1, e2⟩)

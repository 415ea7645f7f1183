theorem dnM_j {N : Nat} {sA sB : Nat → Nat} {Lf : Nat → Bool} {k i k' q' : Nat} : dnM N sA sB Lf k (i + 1) 0 k' q' ↔ dnM N sA sB Lf k i (sA (so Lf k)) k' q' := by
  unfold dnM
  constructor
  · rintro ⟨q1, q2, q3, q4⟩
    refine ⟨q1, q2, q3, ?_⟩
    rcases q4 with q4 | ⟨q4, q5⟩
    · exact Or.inl q4
    · right
      refine ⟨q4, ?_⟩
      by_cases e : q' / 4 = i
      · right; subst q4; exact ⟨e, q3⟩
      · left; omega
  · rintro ⟨q1, q2, q3, q4⟩
    exact ⟨q1, q2, q3, by omega⟩
theorem dnM_i {N : Nat} {sA sB : Nat → Nat} {Lf : Nat → Bool} {k k' q' : Nat} : dnM N sA sB Lf (k + 1) 0 0 k' q' ↔ dnM N sA sB Lf k (sB (ta Lf k)) 0 k' q' := by
  unfold dnM
  constructor
  · rintro ⟨q1, q2, q3, q4⟩
    refine ⟨q1, q2, q3, ?_⟩
    by_cases e : k' = k
    · right; subst e; exact ⟨rfl, Or.inl q2⟩
    · left; omega
  · rintro ⟨q1, q2, q3, q4⟩
    exact ⟨q1, q2, q3, by omega⟩

theorem k_maps4 {G : GL} {d : Nat} {sz p N : Nat} (hz : 615 ≤ sz) (hN : 1 ≤ N ∧ N ≤ 8) (hP : isP p) {W : Nat → Nat} {S T : Nat → Int} {la lb : Nat} (hla : la < 8) (hlb : lb < 8) {sA sB : Nat → Nat} (hsA : sz8 S la sA) (hsB : sz8 S lb sB) (hT : inTm T p) {Q : Option AV → HP → Nat → Prop} {F : Nat → Int} (hF : ∀ j, j ≤ N → F j = (frm sA sB j : Int)) {w : Nat} (hw : w = frm sA sB N) {ld : Nat → Int} {Qs : Nat → Nat → Int} {k i : Nat} (hk : k + 1 < N) (hi : i < sB (ta (Lw (W la)) k)) : ∀ j, j ≤ sA (so (Lw (W la)) k) → ∀ (hp : HP) (M : Nat → Nat → Int) (m : Nat) (g : Nat → Option Nat) (σ : Nat → Nat) (v8 v9 v10 : AV), TS hp p N W S T M ld m w g σ F Qs → m ≤ 16 * k + 4 * i + j → RwB m w M (dnM N sA sB (Lw (W la)) k i j) (rowM sA sB T (Lw (W la)) p la lb) → inQ m w M p → (∀ h M1 m1 g1 σ1 v8 v9 v10, TS h p N W S T M1 ld m1 w g1 σ1 F Qs → Ft hp h → m1 ≤ 16 * k + 4 * (i + 1) → RwB m1 w M1 (dnM N sA sB (Lw (W la)) k (i + 1) 0) (rowM sA sB T (Lw (W la)) p la lb) → inQ m1 w M1 p → Ex G (d + 2) 0 0 mX7_maps 277 [vr 92, vi la, vi lb, vi k, vi ((so (Lw (W la)) k) : Nat), vi ((ta (Lw (W la)) k) : Nat), vi i, vi (sA (so (Lw (W la)) k) : Nat), v8, v9, v10] [] h sz Q) → Ex G (d + 2) 0 0 mX7_maps 121 [vr 92, vi la, vi lb, vi k, vi ((so (Lw (W la)) k) : Nat), vi ((ta (Lw (W la)) k) : Nat), vi i, vi j, v8, v9, v10] [] hp sz Q := by
  have hpl := hP.le
  have hst := so_ta (Lf := (Lw (W la))) (k := k)
  have hso8 := frm_mono (sA := sA) (sB := sB) (so (Lw (W la)) k) N (by omega)
  have hta8 := frm_mono (sA := sA) (sB := sB) (ta (Lw (W la)) k) N (by omega)
  have hw8 := frm_le (sA := sA) (sB := sB) (fun k hk => (hsA k hk).2) (fun k hk => (hsB k hk).2) N (by omega)
  have hsA4 := (hsA (so (Lw (W la)) k) (by omega)).2
  have htA4 := (hsA (ta (Lw (W la)) k) (by omega)).2
  have hsB4 := (hsB (so (Lw (W la)) k) (by omega)).2
  have htB4 := (hsB (ta (Lw (W la)) k) (by omega)).2
  refine down (fun hp M m g σ v8 v9 v10 t hm rb hM hq => ?_) (fun j hj ih hp M m g σ v8 v9 v10 t hm rb hM hq => ?_)
  · obtain ⟨C, D, Mo, FA, ⟨gq, SA, SB⟩, SC⟩ := id t
    obtain ⟨C0, C1, C2, C3, C4, C5, C6, C7, C8, C11, C12, C13, C14, C15, C16, C17, C18, C19, C20, C21, C22, C23⟩ := id C
    have hob := C0.ob
    obtain ⟨D1, D2, D3, D4⟩ := id D
    obtain ⟨O1, O2, O3, O4, O5, O6⟩ := id Mo
    refine x_iload (pc := 121) dX7_maps_121 rfl ?_
    refine x_aload_n (pc := 123) dX7_maps_123 rfl ?_
    refine x_iload_n (pc := 124) dX7_maps_124 rfl ?_
    refine x_iload (pc := 125) dX7_maps_125 rfl ?_
    refine x_w2 (pc := 127) dX7_maps_127 wX7_at iX7_at kX7_118 (by decide) rfl (Nat.le_of_ble_eq_true rfl) (by assumption) (by omega) (m_at C hz hN D hla (by omega)) ?_
    rw [(hsA _ (by omega)).1]
    refine x_icmp_ge (pc := 130) (tgt := 277) dX7_maps_130 (by decide) (by omega) (by omega) (fun c130 => ?_) (fun c130 => ?_)
    · exact hq hp M m g σ _ _ _ t Ft.rf (by omega) (rb.cg (fun k' q' => dnM_j)) hM
    · exact absurd c130 (by omega)
  · have hm9 : m < 260 := by omega
    obtain ⟨C, D, Mo, FA, ⟨gq, SA, SB⟩, SC⟩ := id t
    obtain ⟨C0, C1, C2, C3, C4, C5, C6, C7, C8, C11, C12, C13, C14, C15, C16, C17, C18, C19, C20, C21, C22, C23⟩ := id C
    have hob := C0.ob
    obtain ⟨D1, D2, D3, D4⟩ := id D
    obtain ⟨O1, O2, O3, O4, O5, O6⟩ := id Mo
    refine x_iload (pc := 121) dX7_maps_121 rfl ?_
    refine x_aload_n (pc := 123) dX7_maps_123 rfl ?_
    refine x_iload_n (pc := 124) dX7_maps_124 rfl ?_
    refine x_iload (pc := 125) dX7_maps_125 rfl ?_
    refine x_w2 (pc := 127) dX7_maps_127 wX7_at iX7_at kX7_118 (by decide) rfl (Nat.le_of_ble_eq_true rfl) (by assumption) (by omega) (m_at C hz hN D hla (by omega)) ?_
    rw [(hsA _ (by omega)).1]
    refine x_icmp_ge (pc := 130) (tgt := 277) dX7_maps_130 (by decide) (by omega) (by omega) (fun c130 => ?_) (fun c130 => ?_)
    · exact absurd c130 (by omega)
    · refine x_aload_n (pc := 133) dX7_maps_133 rfl ?_
      refine x_y0 (pc := 134) dX7_maps_134 wX7_newRow iX7_newRow kX7_158 (by decide) rfl (Nat.le_of_ble_eq_true rfl) (by assumption) (by omega) (m_newRow C hz hN ⟨g, σ, Mo⟩ hm9 (by omega)) (fun v134 h134 e134 => ?_)
      obtain ⟨C1, f134, M1, g1, σ1, rfl, m1, n0, n1, n2⟩ := e134
      have t1 := t.of C1 m1 f134
      refine x_astore (pc := 137) dX7_maps_137 (by decide) rfl ?_
      show Ex _ _ _ _ _ _ [_, _, _, _, _, _, _, _, _, _, _] _ _ _ _
      refine x_iconst (pc := 139) dX7_maps_139 ?_
      refine x_istore (pc := 140) dX7_maps_140 (by decide) rfl ?_
      show Ex _ _ _ _ _ _ [_, _, _, _, _, _, _, _, _, _, _] _ _ _ _
      refine k_maps5 (d := d) hz hN hP hla hlb hsA hsB hT hF hw hk hi hj hm9 0 (by omega) h134 M1 t1 (fun c hc => by unfold rM1; rw [if_neg (by omega)]; exact n1 c hc) (fun h2 M2 t2 f2 e0 e1 => ?_)
      refine x_iconst (pc := 198) dX7_maps_198 ?_
      refine x_istore (pc := 199) dX7_maps_199 (by decide) rfl ?_
      show Ex _ _ _ _ _ _ [_, _, _, _, _, _, _, _, _, _, _] _ _ _ _
      refine k_maps6 (d := d) hz hN hP hla hlb hsA hsB hT hF hw hk hi hj hm9 0 (by omega) h2 M2 _ t2 e1 (fun h3 M3 v10 t3 f3 e2 e3 => ?_)
      have hrow : ∀ c, c < w → M3 m c = rowM sA sB T (Lw (W la)) p la lb k (i * 4 + j) c := fun c hc => by
        unfold rowM
        rw [show (i * 4 + j) / 4 = i by omega, show (i * 4 + j) % 4 = j by omega]
        exact e3 c hc
      refine x_iinc (pc := 271) dX7_maps_271 rfl (by decide) rfl ?_
      show Ex _ _ _ _ _ _ [_, _, _, _, _, _, _, _, _, _, _] _ _ _ _
      refine x_goto (pc := 274) (tgt := 121) dX7_maps_274 (by decide) ?_
      exact ih h3 M3 (m + 1) g1 σ1 _ _ _ t3 (by omega) (rb.push (k := k) (i := i * 4 + j) (fun z hz9 => by rw [e2 z hz9, e0 z hz9, n0 z hz9]) hrow (fun k' q' => by
        unfold dnM
        constructor
        · rintro ⟨q1, q2, q3, q4⟩
          by_cases e : k' = k ∧ q' = i * 4 + j
          · exact Or.inr e
          · left; exact ⟨q1, q2, q3, by omega⟩
        · rintro (⟨q1, q2, q3, q4⟩ | ⟨rfl, rfl⟩)
          · exact ⟨q1, q2, q3, by omega⟩
          · rw [show (i * 4 + j) / 4 = i by omega, show (i * 4 + j) % 4 = j by omega]
            exact ⟨hk, hi, hj, by omega⟩)) (fun z c hz9 hc => by
        by_cases e : z = m
        · subst e
          rw [e3 c hc]
          exact rM2_rg (by omega) hT hla (by omega) (by omega) htA4 _ _
        · rw [e2 z e, e0 z e, n0 z e]; exact hM z c (by omega) hc) (fun h4 M4 m4 g4 σ4 v8 v9 v10 t4 f4 => hq h4 M4 m4 g4 σ4 v8 v9 v10 t4 (((f134.t.tr f2).tr f3).tr f4))

theorem k_maps3 {G : GL} {d : Nat} {sz p N : Nat} (hz : 615 ≤ sz) (hN : 1 ≤ N ∧ N ≤ 8) (hP : isP p) {W : Nat → Nat} {S T : Nat → Int} {la lb : Nat} (hla : la < 8) (hlb : lb < 8) {sA sB : Nat → Nat} (hsA : sz8 S la sA) (hsB : sz8 S lb sB) (hT : inTm T p) {Q : Option AV → HP → Nat → Prop} {F : Nat → Int} (hF : ∀ j, j ≤ N → F j = (frm sA sB j : Int)) {w : Nat} (hw : w = frm sA sB N) {ld : Nat → Int} {Qs : Nat → Nat → Int} {k : Nat} (hk : k + 1 < N) : ∀ i, i ≤ sB (ta (Lw (W la)) k) → ∀ (hp : HP) (M : Nat → Nat → Int) (m : Nat) (g : Nat → Option Nat) (σ : Nat → Nat) (v7 v8 v9 v10 : AV), TS hp p N W S T M ld m w g σ F Qs → m ≤ 16 * k + 4 * i → RwB m w M (dnM N sA sB (Lw (W la)) k i 0) (rowM sA sB T (Lw (W la)) p la lb) → inQ m w M p → (∀ h M1 m1 g1 σ1 v7 v8 v9 v10, TS h p N W S T M1 ld m1 w g1 σ1 F Qs → Ft hp h → m1 ≤ 16 * (k + 1) → RwB m1 w M1 (dnM N sA sB (Lw (W la)) (k + 1) 0 0) (rowM sA sB T (Lw (W la)) p la lb) → inQ m1 w M1 p → Ex G (d + 2) 0 0 mX7_maps 283 [vr 92, vi la, vi lb, vi k, vi ((so (Lw (W la)) k) : Nat), vi ((ta (Lw (W la)) k) : Nat), vi (sB (ta (Lw (W la)) k) : Nat), v7, v8, v9, v10] [] h sz Q) → Ex G (d + 2) 0 0 mX7_maps 106 [vr 92, vi la, vi lb, vi k, vi ((so (Lw (W la)) k) : Nat), vi ((ta (Lw (W la)) k) : Nat), vi i, v7, v8, v9, v10] [] hp sz Q := by
  have hpl := hP.le
  have hst := so_ta (Lf := (Lw (W la))) (k := k)
  have hso8 := frm_mono (sA := sA) (sB := sB) (so (Lw (W la)) k) N (by omega)
  have hta8 := frm_mono (sA := sA) (sB := sB) (ta (Lw (W la)) k) N (by omega)
  have hw8 := frm_le (sA := sA) (sB := sB) (fun k hk => (hsA k hk).2) (fun k hk => (hsB k hk).2) N (by omega)
  have hsA4 := (hsA (so (Lw (W la)) k) (by omega)).2
  have htA4 := (hsA (ta (Lw (W la)) k) (by omega)).2
  have hsB4 := (hsB (so (Lw (W la)) k) (by omega)).2
  have htB4 := (hsB (ta (Lw (W la)) k) (by omega)).2
  refine down (fun hp M m g σ v7 v8 v9 v10 t hm rb hM hq => ?_) (fun i hi ih hp M m g σ v7 v8 v9 v10 t hm rb hM hq => ?_)
  · obtain ⟨C, D, Mo, FA, ⟨gq, SA, SB⟩, SC⟩ := id t
    obtain ⟨C0, C1, C2, C3, C4, C5, C6, C7, C8, C11, C12, C13, C14, C15, C16, C17, C18, C19, C20, C21, C22, C23⟩ := id C
    have hob := C0.ob
    obtain ⟨D1, D2, D3, D4⟩ := id D
    obtain ⟨O1, O2, O3, O4, O5, O6⟩ := id Mo
    refine x_iload (pc := 106) dX7_maps_106 rfl ?_
    refine x_aload_n (pc := 108) dX7_maps_108 rfl ?_
    refine x_iload_n (pc := 109) dX7_maps_109 rfl ?_
    refine x_iload (pc := 110) dX7_maps_110 rfl ?_
    refine x_w2 (pc := 112) dX7_maps_112 wX7_at iX7_at kX7_118 (by decide) rfl (Nat.le_of_ble_eq_true rfl) (by assumption) (by omega) (m_at C hz hN D hlb (by omega)) ?_
    rw [(hsB _ (by omega)).1]
    refine x_icmp_ge (pc := 115) (tgt := 283) dX7_maps_115 (by decide) (by omega) (by omega) (fun c115 => ?_) (fun c115 => ?_)
    · exact hq hp M m g σ _ _ _ _ t Ft.rf (by omega) (rb.cg (fun k' q' => dnM_i)) hM
    · exact absurd c115 (by omega)
  · obtain ⟨C, D, Mo, FA, ⟨gq, SA, SB⟩, SC⟩ := id t
    obtain ⟨C0, C1, C2, C3, C4, C5, C6, C7, C8, C11, C12, C13, C14, C15, C16, C17, C18, C19, C20, C21, C22, C23⟩ := id C
    have hob := C0.ob
    obtain ⟨D1, D2, D3, D4⟩ := id D
    obtain ⟨O1, O2, O3, O4, O5, O6⟩ := id Mo
    refine x_iload (pc := 106) dX7_maps_106 rfl ?_
    refine x_aload_n (pc := 108) dX7_maps_108 rfl ?_
    refine x_iload_n (pc := 109) dX7_maps_109 rfl ?_
    refine x_iload (pc := 110) dX7_maps_110 rfl ?_
    refine x_w2 (pc := 112) dX7_maps_112 wX7_at iX7_at kX7_118 (by decide) rfl (Nat.le_of_ble_eq_true rfl) (by assumption) (by omega) (m_at C hz hN D hlb (by omega)) ?_
    rw [(hsB _ (by omega)).1]
    refine x_icmp_ge (pc := 115) (tgt := 283) dX7_maps_115 (by decide) (by omega) (by omega) (fun c115 => ?_) (fun c115 => ?_)
    · exact absurd c115 (by omega)
    · refine x_iconst (pc := 118) dX7_maps_118 ?_
      refine x_istore (pc := 119) dX7_maps_119 (by decide) rfl ?_
      show Ex _ _ _ _ _ _ [_, _, _, _, _, _, _, _, _, _, _] _ _ _ _
      refine k_maps4 (d := d) hz hN hP hla hlb hsA hsB hT hF hw hk hi 0 (by omega) hp M m g σ _ _ _ t (by omega) rb hM (fun h1 M1 m1 g1 σ1 v8 v9 v10 t1 f1 hm1 rb1 hM1 => ?_)
      refine x_iinc (pc := 277) dX7_maps_277 rfl (by decide) rfl ?_
      show Ex _ _ _ _ _ _ [_, _, _, _, _, _, _, _, _, _, _] _ _ _ _
      refine x_goto (pc := 280) (tgt := 106) dX7_maps_280 (by decide) ?_
      exact ih h1 M1 m1 g1 σ1 _ _ _ _ t1 (by omega) rb1 hM1 (fun h2 M2 m2 g2 σ2 v7 v8 v9 v10 t2 f2 => hq h2 M2 m2 g2 σ2 v7 v8 v9 v10 t2 (f1.tr f2))

theorem k_maps2 {G : GL} {d : Nat} {sz p N : Nat} (hz : 615 ≤ sz) (hN : 1 ≤ N ∧ N ≤ 8) (hP : isP p) {W : Nat → Nat} {S T : Nat → Int} {la lb : Nat} (hla : la < 8) (hlb : lb < 8) {sA sB : Nat → Nat} (hsA : sz8 S la sA) (hsB : sz8 S lb sB) (hT : inTm T p) {Q : Option AV → HP → Nat → Prop} {F : Nat → Int} (hF : ∀ j, j ≤ N → F j = (frm sA sB j : Int)) {w : Nat} (hw : w = frm sA sB N) {ld : Nat → Int} {Qs : Nat → Nat → Int} : ∀ k, k ≤ N - 1 → ∀ (hp : HP) (M : Nat → Nat → Int) (m : Nat) (g : Nat → Option Nat) (σ : Nat → Nat) (v4 v5 v6 v7 v8 v9 v10 : AV), TS hp p N W S T M ld m w g σ F Qs → m ≤ 16 * k → RwB m w M (dnM N sA sB (Lw (W la)) k 0 0) (rowM sA sB T (Lw (W la)) p la lb) → inQ m w M p → (∀ h M1 m1 g1 σ1 v4 v5 v6 v7 v8 v9 v10, TS h p N W S T M1 ld m1 w g1 σ1 F Qs → Ft hp h → m1 ≤ 112 → RwB m1 w M1 (dnM N sA sB (Lw (W la)) (N - 1) 0 0) (rowM sA sB T (Lw (W la)) p la lb) → inQ m1 w M1 p → Ex G (d + 2) 0 0 mX7_maps 289 [vr 92, vi la, vi lb, vi (N - 1 : Nat), v4, v5, v6, v7, v8, v9, v10] [] h sz Q) → Ex G (d + 2) 0 0 mX7_maps 77 [vr 92, vi la, vi lb, vi k, v4, v5, v6, v7, v8, v9, v10] [] hp sz Q := by
  refine down (fun hp M m g σ v4 v5 v6 v7 v8 v9 v10 t hm rb hM hq => ?_) (fun k hk ih hp M m g σ v4 v5 v6 v7 v8 v9 v10 t hm rb hM hq => ?_)
  · obtain ⟨C, D, Mo, FA, ⟨gq, SA, SB⟩, SC⟩ := id t
    obtain ⟨C0, C1, C2, C3, C4, C5, C6, C7, C8, C11, C12, C13, C14, C15, C16, C17, C18, C19, C20, C21, C22, C23⟩ := id C
    have hob := C0.ob
    obtain ⟨D1, D2, D3, D4⟩ := id D
    obtain ⟨O1, O2, O3, O4, O5, O6⟩ := id Mo
    refine x_iload_n (pc := 77) dX7_maps_77 rfl ?_
    refine x_aload_n (pc := 78) dX7_maps_78 rfl ?_
    refine x_gf (pc := 79) dX7_maps_79 fX7_93 (by assumption) (by omega) ?_
    refine x_iconst (pc := 82) dX7_maps_82 ?_
    refine x_isub (pc := 83) dX7_maps_83 ?_
    refine x_icmp_ge (pc := 84) (tgt := 289) dX7_maps_84 (by decide) (by omega) (by omega) (fun c84 => ?_) (fun c84 => ?_)
    · exact hq hp M m g σ _ _ _ _ _ _ _ t Ft.rf (by omega) rb hM
    · exact absurd c84 (by omega)
  · obtain ⟨C, D, Mo, FA, ⟨gq, SA, SB⟩, SC⟩ := id t
    obtain ⟨C0, C1, C2, C3, C4, C5, C6, C7, C8, C11, C12, C13, C14, C15, C16, C17, C18, C19, C20, C21, C22, C23⟩ := id C
    have hob := C0.ob
    obtain ⟨D1, D2, D3, D4⟩ := id D
    obtain ⟨O1, O2, O3, O4, O5, O6⟩ := id Mo
    refine x_iload_n (pc := 77) dX7_maps_77 rfl ?_
    refine x_aload_n (pc := 78) dX7_maps_78 rfl ?_
    refine x_gf (pc := 79) dX7_maps_79 fX7_93 (by assumption) (by omega) ?_
    refine x_iconst (pc := 82) dX7_maps_82 ?_
    refine x_isub (pc := 83) dX7_maps_83 ?_
    refine x_icmp_ge (pc := 84) (tgt := 289) dX7_maps_84 (by decide) (by omega) (by omega) (fun c84 => ?_) (fun c84 => ?_)
    · exact absurd c84 (by omega)
    · refine x_aload_n (pc := 87) dX7_maps_87 rfl ?_
      refine x_iload_n (pc := 88) dX7_maps_88 rfl ?_
      refine x_iload_n (pc := 89) dX7_maps_89 rfl ?_
      refine x_w2 (pc := 90) dX7_maps_90 wX7_source iX7_source kX7_121 (by decide) rfl (Nat.le_of_ble_eq_true rfl) (by assumption) (by omega) (m_source C hz hN D hla (k := k) (by omega)) ?_
      rw [show (if (W la).testBit k = true then k + 1 else k) = so (Lw (W la)) k from rfl]
      refine x_istore (pc := 93) dX7_maps_93 (by decide) rfl ?_
      show Ex _ _ _ _ _ _ [_, _, _, _, _, _, _, _, _, _, _] _ _ _ _
      refine x_aload_n (pc := 95) dX7_maps_95 rfl ?_
      refine x_iload_n (pc := 96) dX7_maps_96 rfl ?_
      refine x_iload_n (pc := 97) dX7_maps_97 rfl ?_
      refine x_w2 (pc := 98) dX7_maps_98 wX7_target iX7_target kX7_115 (by decide) rfl (Nat.le_of_ble_eq_true rfl) (by assumption) (by omega) (m_target C hz hN D hla (k := k) (by omega)) ?_
      rw [show (if (W la).testBit k = true then k else k + 1) = ta (Lw (W la)) k from rfl]
      refine x_istore (pc := 101) dX7_maps_101 (by decide) rfl ?_
      show Ex _ _ _ _ _ _ [_, _, _, _, _, _, _, _, _, _, _] _ _ _ _
      refine x_iconst (pc := 103) dX7_maps_103 ?_
      refine x_istore (pc := 104) dX7_maps_104 (by decide) rfl ?_
      show Ex _ _ _ _ _ _ [_, _, _, _, _, _, _, _, _, _, _] _ _ _ _
      refine k_maps3 (d := d) hz hN hP hla hlb hsA hsB hT hF hw (by omega) 0 (by omega) hp M m g σ _ _ _ _ t (by omega) rb hM (fun h1 M1 m1 g1 σ1 v7 v8 v9 v10 t1 f1 hm1 rb1 hM1 => ?_)
      refine x_iinc (pc := 283) dX7_maps_283 rfl (by decide) rfl ?_
      show Ex _ _ _ _ _ _ [_, _, _, _, _, _, _, _, _, _, _] _ _ _ _
      refine x_goto (pc := 286) (tgt := 77) dX7_maps_286 (by decide) ?_
      exact ih h1 M1 m1 g1 σ1 _ _ _ _ _ _ _ t1 (by omega) rb1 hM1 (fun h2 M2 m2 g2 σ2 v4 v5 v6 v7 v8 v9 v10 t2 f2 => hq h2 M2 m2 g2 σ2 v4 v5 v6 v7 v8 v9 v10 t2 (f1.tr f2))

def dnS (s : Nat → Nat) (Lf : Nat → Bool) (a b k i k' i' : Nat) : Prop := a ≤ k' ∧ k' < b ∧ i' < s (ta Lf k') ∧ (k' < k ∨ (k' = k ∧ i' < i))
theorem dnS_end {s : Nat → Nat} {Lf : Nat → Bool} {a b k k' i' : Nat} : dnS s Lf a b (k + 1) 0 k' i' ↔ dnS s Lf a b k (s (ta Lf k)) k' i' := by
  unfold dnS
  constructor
  · rintro ⟨q1, q2, q3, q4⟩
    refine ⟨q1, q2, q3, ?_⟩
    by_cases e : k' = k
    · right; subst e; exact ⟨rfl, q3⟩
    · left; omega
  · rintro ⟨q1, q2, q3, q4⟩
    exact ⟨q1, q2, q3, by omega⟩
theorem emod_m1 {p : Nat} (hp : 2 ≤ p) : (0 - 1 : Int) % p = (p : Int) - 1 := by
  have h : (0 - 1 : Int) = ((p : Int) - 1) + p * (-1) := by omega
  rw [h, Int.add_mul_emod_self_left, Int.emod_eq_of_lt (by omega) (by omega)]

theorem k_same3 {G : GL} {d : Nat} {sz p N : Nat} (hz : 615 ≤ sz) (hN : 1 ≤ N ∧ N ≤ 8) (hP : isP p) {W : Nat → Nat} {S T : Nat → Int} {l a b : Nat} (hl : l < 8) {s : Nat → Nat} (hs : sz8 S l s) (hab : a ≤ b) (hb : b < N) {Q : Option AV → HP → Nat → Prop} (hT : inTm T p) {F : Nat → Int} (hF : ∀ j, a ≤ j → j ≤ b + 1 → F j = (frs s a j : Int)) {w : Nat} (hw : w = frs s a (b + 1)) {ld : Nat → Int} {Qs : Nat → Nat → Int} {k : Nat} (hak : a ≤ k) (hk : k < b) : ∀ i, i ≤ s (ta (Lw (W l)) k) → ∀ (hp : HP) (M : Nat → Nat → Int) (m : Nat) (g : Nat → Option Nat) (σ : Nat → Nat) (v9 v10 : AV), TS hp p N W S T M ld m w g σ F Qs → m ≤ 4 * (k - a) + i → RwB m w M (dnS s (Lw (W l)) a b k i) (rowS s T (Lw (W l)) p l a) → inQ m w M p → (∀ h M1 m1 g1 σ1 v9 v10, TS h p N W S T M1 ld m1 w g1 σ1 F Qs → Ft hp h → m1 ≤ 4 * (k + 1 - a) → RwB m1 w M1 (dnS s (Lw (W l)) a b (k + 1) 0) (rowS s T (Lw (W l)) p l a) → inQ m1 w M1 p → Ex G (d + 2) 0 0 mX7_same 197 [vr 92, vi l, vi a, vi b, vi (w : Nat), vi k, vi (so (Lw (W l)) k : Nat), vi (ta (Lw (W l)) k : Nat), vi (s (ta (Lw (W l)) k) : Nat), v9, v10] [] h sz Q) → Ex G (d + 2) 0 0 mX7_same 92 [vr 92, vi l, vi a, vi b, vi (w : Nat), vi k, vi (so (Lw (W l)) k : Nat), vi (ta (Lw (W l)) k : Nat), vi i, v9, v10] [] hp sz Q := by
  have hpl := hP.le
  have hst := so_ta (Lf := Lw (W l)) (k := k)
  have hso8 := frs_mono (s := s) (a := a) (so (Lw (W l)) k) (b + 1) (by omega) (by omega)
  have hta8 := frs_mono (s := s) (a := a) (ta (Lw (W l)) k) (b + 1) (by omega) (by omega)
  have hw8 := frs_le (s := s) (a := a) (fun k hk => (hs k hk).2) (b + 1) (by omega)
  have hs4 := (hs (so (Lw (W l)) k) (by omega)).2
  have ht4 := (hs (ta (Lw (W l)) k) (by omega)).2
  have hdis : frs s a (so (Lw (W l)) k) + s (so (Lw (W l)) k) ≤ frs s a (ta (Lw (W l)) k) ∨ frs s a (ta (Lw (W l)) k) + s (ta (Lw (W l)) k) ≤ frs s a (so (Lw (W l)) k) := by
    rcases hst with ⟨_, e1, e2⟩ | ⟨_, e1, e2⟩
    · right; rw [e1, e2]; exact frs_mono k (k + 1) hak (by omega)
    · left; rw [e1, e2]; exact frs_mono k (k + 1) hak (by omega)
  refine down (fun hp M m g σ v9 v10 t hm rb hM hq => ?_) (fun i hi ih hp M m g σ v9 v10 t hm rb hM hq => ?_)
  · obtain ⟨C, D, Mo, FA, ⟨gq, SA, SB⟩, SC⟩ := id t
    obtain ⟨C0, C1, C2, C3, C4, C5, C6, C7, C8, C11, C12, C13, C14, C15, C16, C17, C18, C19, C20, C21, C22, C23⟩ := id C
    have hob := C0.ob
    obtain ⟨D1, D2, D3, D4⟩ := id D
    obtain ⟨O1, O2, O3, O4, O5, O6⟩ := id Mo
    refine x_iload (pc := 92) dX7_same_92 rfl ?_
    refine x_aload_n (pc := 94) dX7_same_94 rfl ?_
    refine x_iload_n (pc := 95) dX7_same_95 rfl ?_
    refine x_iload (pc := 96) dX7_same_96 rfl ?_
    refine x_w2 (pc := 98) dX7_same_98 wX7_at iX7_at kX7_118 (by decide) rfl (Nat.le_of_ble_eq_true rfl) (by assumption) (by omega) (m_at C hz hN D hl (by omega)) ?_
    rw [(hs _ (by omega)).1]
    refine x_icmp_ge (pc := 101) (tgt := 197) dX7_same_101 (by decide) (by omega) (by omega) (fun c101 => ?_) (fun c101 => ?_)
    · exact hq hp M m g σ _ _ t Ft.rf (by omega) (rb.cg (fun k' i' => dnS_end)) hM
    · exact absurd c101 (by omega)
  · have hm9 : m < 260 := by omega
    obtain ⟨C, D, Mo, FA, ⟨gq, SA, SB⟩, SC⟩ := id t
    obtain ⟨C0, C1, C2, C3, C4, C5, C6, C7, C8, C11, C12, C13, C14, C15, C16, C17, C18, C19, C20, C21, C22, C23⟩ := id C
    have hob := C0.ob
    obtain ⟨D1, D2, D3, D4⟩ := id D
    obtain ⟨O1, O2, O3, O4, O5, O6⟩ := id Mo
    refine x_iload (pc := 92) dX7_same_92 rfl ?_
    refine x_aload_n (pc := 94) dX7_same_94 rfl ?_
    refine x_iload_n (pc := 95) dX7_same_95 rfl ?_
    refine x_iload (pc := 96) dX7_same_96 rfl ?_
    refine x_w2 (pc := 98) dX7_same_98 wX7_at iX7_at kX7_118 (by decide) rfl (Nat.le_of_ble_eq_true rfl) (by assumption) (by omega) (m_at C hz hN D hl (by omega)) ?_
    rw [(hs _ (by omega)).1]
    refine x_icmp_ge (pc := 101) (tgt := 197) dX7_same_101 (by decide) (by omega) (by omega) (fun c101 => ?_) (fun c101 => ?_)
    · exact absurd c101 (by omega)
    · refine x_aload_n (pc := 104) dX7_same_104 rfl ?_
      refine x_y0 (pc := 105) dX7_same_105 wX7_newRow iX7_newRow kX7_158 (by decide) rfl (Nat.le_of_ble_eq_true rfl) (by assumption) (by omega) (m_newRow C hz hN ⟨g, σ, Mo⟩ hm9 (by omega)) (fun v105 h105 e105 => ?_)
      obtain ⟨C1, f105, M1, g1, σ1, rfl, m1, n0, n1, n2⟩ := e105
      have t1 := t.of C1 m1 f105
      refine x_astore (pc := 108) dX7_same_108 (by decide) rfl ?_
      show Ex _ _ _ _ _ _ [_, _, _, _, _, _, _, _, _, _, _] _ _ _ _
      refine x_iconst (pc := 110) dX7_same_110 ?_
      refine x_istore (pc := 111) dX7_same_111 (by decide) rfl ?_
      show Ex _ _ _ _ _ _ [_, _, _, _, _, _, _, _, _, _, _] _ _ _ _
      refine k_same4 (d := d) hz hN hP hl hs hab hb hF hak hk hi hw hm9 0 (by omega) h105 M1 t1 (fun h2 M2 t2 f2 e0 e1 => ?_)
      obtain ⟨C, D, Mo, FA, ⟨gq, SA, SB⟩, SC⟩ := id t2
      obtain ⟨C0, C1, C2, C3, C4, C5, C6, C7, C8, C11, C12, C13, C14, C15, C16, C17, C18, C19, C20, C21, C22, C23⟩ := id C
      have hob := C0.ob
      obtain ⟨a1, a2, a3, a4⟩ := Mo.lt (i := m) hm9
      have hrow : ∀ c, c < w → (up (M2 m) (frs s a (ta (Lw (W l)) k) + i) ((M2 m (frs s a (ta (Lw (W l)) k) + i) - 1) % p)) c = rowS s T (Lw (W l)) p l a k i c := fun c hc => by
        unfold rowS
        by_cases e : c = frs s a (ta (Lw (W l)) k) + i
        · rw [e, up_s, if_neg (by omega), if_pos rfl, e1, if_neg (by omega), n1 _ (by omega)]
          exact emod_m1 (by omega)
        · rw [up_n _ _ e, e1]
          by_cases e3 : frs s a (so (Lw (W l)) k) ≤ c ∧ c < frs s a (so (Lw (W l)) k) + s (so (Lw (W l)) k)
          · rw [if_pos (by omega), if_pos e3]
          · rw [if_neg (by omega), if_neg e3, if_neg e, n1 _ hc]
      have hv9 : -2147483648 ≤ M2 m (frs s a (ta (Lw (W l)) k) + i) - 1 ∧ M2 m (frs s a (ta (Lw (W l)) k) + i) - 1 < 2147483648 := by rw [e1, if_neg (by omega), n1 _ (by omega)]; omega
      refine x_aload (pc := 159) dX7_same_159 rfl ?_
      refine x_aload_n (pc := 161) dX7_same_161 rfl ?_
      refine x_gf (pc := 162) dX7_same_162 fX7_36 (by assumption) (by omega) ?_
      refine x_iload (pc := 165) dX7_same_165 rfl ?_
      refine x_il (pc := 167) dX7_same_167 (by assumption) (by omega) rfl (by omega) ?_
      rw [hF (ta (Lw (W l)) k) (by omega) (by omega)]
      refine x_iload (pc := 168) dX7_same_168 rfl ?_
      refine x_iadd (pc := 170) dX7_same_170 ?_
      refine x_aload_n (pc := 171) dX7_same_171 rfl ?_
      refine x_aload (pc := 172) dX7_same_172 rfl ?_
      refine x_aload_n (pc := 174) dX7_same_174 rfl ?_
      refine x_gf (pc := 175) dX7_same_175 fX7_36 (by assumption) (by omega) ?_
      refine x_iload (pc := 178) dX7_same_178 rfl ?_
      refine x_il (pc := 180) dX7_same_180 (by assumption) (by omega) rfl (by omega) ?_
      rw [hF (ta (Lw (W l)) k) (by omega) (by omega)]
      refine x_iload (pc := 181) dX7_same_181 rfl ?_
      refine x_iadd (pc := 183) dX7_same_183 ?_
      refine x_il (pc := 184) (j := frs s a (ta (Lw (W l)) k) + i) dX7_same_184 a4 (by omega) (by omega) (by omega) ?_
      refine x_iconst (pc := 185) dX7_same_185 ?_
      refine x_isub (pc := 186) dX7_same_186 ?_
      refine x_w1 (pc := 187) dX7_same_187 wX7_rest iX7_rest kX7_132 (by decide) rfl (Nat.le_of_ble_eq_true rfl) (by assumption) (by omega) (m_rest C hz hN hP hv9) ?_
      refine x_is (pc := 190) (j := frs s a (ta (Lw (W l)) k) + i) dX7_same_190 a4 (by omega) (by omega) (by omega) ?_
      refine x_iinc (pc := 191) dX7_same_191 rfl (by decide) rfl ?_
      show Ex _ _ _ _ _ _ [_, _, _, _, _, _, _, _, _, _, _] _ _ _ _
      refine x_goto (pc := 194) (tgt := 92) dX7_same_194 (by decide) ?_
      exact ih _ _ (m + 1) g1 σ1 _ _ (t2.row (i := m) hm9) (by omega) (rb.push (k := k) (i := i) (fun z hz9 => by rw [up_n _ _ hz9, e0 z hz9, n0 z hz9]) (fun c hc => by rw [up_s]; exact hrow c hc) (fun k' i' => by
        unfold dnS
        constructor
        · rintro ⟨q1, q2, q3, q4⟩
          by_cases e : k' = k ∧ i' = i
          · exact Or.inr e
          · left; exact ⟨q1, q2, q3, by omega⟩
        · rintro (⟨q1, q2, q3, q4⟩ | ⟨rfl, rfl⟩)
          · exact ⟨q1, q2, q3, by omega⟩
          · exact ⟨hak, hk, hi, by omega⟩)) (fun z c hz9 hc => by
        by_cases e : z = m
        · subst e
          rw [up_s, hrow c hc]
          unfold rowS
          by_cases e3 : frs s a (so (Lw (W l)) k) ≤ c ∧ c < frs s a (so (Lw (W l)) k) + s (so (Lw (W l)) k)
          · rw [if_pos e3]; exact hT _ (by omega)
          · rw [if_neg e3]; split <;> omega
        · rw [up_n _ _ e, e0 z e, n0 z e]; exact hM z c (by omega) hc) (fun h3 M3 m3 g3 σ3 v9 v10 t3 f3 => hq h3 M3 m3 g3 σ3 v9 v10 t3 (((f105.t.tr f2).up (by omega) (by omega) (by omega) (by omega)).tr f3))

theorem k_same2 {G : GL} {d : Nat} {sz p N : Nat} (hz : 615 ≤ sz) (hN : 1 ≤ N ∧ N ≤ 8) (hP : isP p) {W : Nat → Nat} {S T : Nat → Int} {l a b : Nat} (hl : l < 8) {s : Nat → Nat} (hs : sz8 S l s) (hab : a ≤ b) (hb : b < N) {Q : Option AV → HP → Nat → Prop} (hT : inTm T p) {F : Nat → Int} (hF : ∀ j, a ≤ j → j ≤ b + 1 → F j = (frs s a j : Int)) {w : Nat} (hw : w = frs s a (b + 1)) {ld : Nat → Int} {Qs : Nat → Nat → Int} : ∀ k, k ≤ b → a ≤ k → ∀ (hp : HP) (M : Nat → Nat → Int) (m : Nat) (g : Nat → Option Nat) (σ : Nat → Nat) (v6 v7 v8 v9 v10 : AV), TS hp p N W S T M ld m w g σ F Qs → m ≤ 4 * (k - a) → RwB m w M (dnS s (Lw (W l)) a b k 0) (rowS s T (Lw (W l)) p l a) → inQ m w M p → (∀ h M1 m1 g1 σ1 v6 v7 v8 v9 v10, TS h p N W S T M1 ld m1 w g1 σ1 F Qs → Ft hp h → m1 ≤ 4 * (b - a) → RwB m1 w M1 (dnS s (Lw (W l)) a b b 0) (rowS s T (Lw (W l)) p l a) → inQ m1 w M1 p → Ex G (d + 2) 0 0 mX7_same 203 [vr 92, vi l, vi a, vi b, vi (w : Nat), vi b, v6, v7, v8, v9, v10] [] h sz Q) → Ex G (d + 2) 0 0 mX7_same 65 [vr 92, vi l, vi a, vi b, vi (w : Nat), vi k, v6, v7, v8, v9, v10] [] hp sz Q := by
  refine down (fun hak hp M m g σ v6 v7 v8 v9 v10 t hm rb hM hq => ?_) (fun k hk ih hak hp M m g σ v6 v7 v8 v9 v10 t hm rb hM hq => ?_)
  · obtain ⟨C, D, Mo, FA, ⟨gq, SA, SB⟩, SC⟩ := id t
    obtain ⟨C0, C1, C2, C3, C4, C5, C6, C7, C8, C11, C12, C13, C14, C15, C16, C17, C18, C19, C20, C21, C22, C23⟩ := id C
    have hob := C0.ob
    obtain ⟨D1, D2, D3, D4⟩ := id D
    obtain ⟨O1, O2, O3, O4, O5, O6⟩ := id Mo
    refine x_iload (pc := 65) dX7_same_65 rfl ?_
    refine x_iload_n (pc := 67) dX7_same_67 rfl ?_
    refine x_icmp_ge (pc := 68) (tgt := 203) dX7_same_68 (by decide) (by omega) (by omega) (fun c68 => ?_) (fun c68 => ?_)
    · exact hq hp M m g σ _ _ _ _ _ t Ft.rf hm rb hM
    · exact absurd c68 (by omega)
  · obtain ⟨C, D, Mo, FA, ⟨gq, SA, SB⟩, SC⟩ := id t
    obtain ⟨C0, C1, C2, C3, C4, C5, C6, C7, C8, C11, C12, C13, C14, C15, C16, C17, C18, C19, C20, C21, C22, C23⟩ := id C
    have hob := C0.ob
    obtain ⟨D1, D2, D3, D4⟩ := id D
    obtain ⟨O1, O2, O3, O4, O5, O6⟩ := id Mo
    refine x_iload (pc := 65) dX7_same_65 rfl ?_
    refine x_iload_n (pc := 67) dX7_same_67 rfl ?_
    refine x_icmp_ge (pc := 68) (tgt := 203) dX7_same_68 (by decide) (by omega) (by omega) (fun c68 => ?_) (fun c68 => ?_)
    · exact absurd c68 (by omega)
    · refine x_aload_n (pc := 71) dX7_same_71 rfl ?_
      refine x_iload_n (pc := 72) dX7_same_72 rfl ?_
      refine x_iload (pc := 73) dX7_same_73 rfl ?_
      refine x_w2 (pc := 75) dX7_same_75 wX7_source iX7_source kX7_121 (by decide) rfl (Nat.le_of_ble_eq_true rfl) (by assumption) (by omega) (m_source C hz hN D hl (k := k) (by omega)) ?_
      rw [show (if (W l).testBit k = true then k + 1 else k) = so (Lw (W l)) k from rfl]
      refine x_istore (pc := 78) dX7_same_78 (by decide) rfl ?_
      show Ex _ _ _ _ _ _ [_, _, _, _, _, _, _, _, _, _, _] _ _ _ _
      refine x_aload_n (pc := 80) dX7_same_80 rfl ?_
      refine x_iload_n (pc := 81) dX7_same_81 rfl ?_
      refine x_iload (pc := 82) dX7_same_82 rfl ?_
      refine x_w2 (pc := 84) dX7_same_84 wX7_target iX7_target kX7_115 (by decide) rfl (Nat.le_of_ble_eq_true rfl) (by assumption) (by omega) (m_target C hz hN D hl (k := k) (by omega)) ?_
      rw [show (if (W l).testBit k = true then k else k + 1) = ta (Lw (W l)) k from rfl]
      refine x_istore (pc := 87) dX7_same_87 (by decide) rfl ?_
      show Ex _ _ _ _ _ _ [_, _, _, _, _, _, _, _, _, _, _] _ _ _ _
      refine x_iconst (pc := 89) dX7_same_89 ?_
      refine x_istore (pc := 90) dX7_same_90 (by decide) rfl ?_
      show Ex _ _ _ _ _ _ [_, _, _, _, _, _, _, _, _, _, _] _ _ _ _
      refine k_same3 (d := d) hz hN hP hl hs hab hb hT hF hw hak hk 0 (by omega) hp M m g σ _ _ t (by omega) rb hM (fun h1 M1 m1 g1 σ1 v9 v10 t1 f1 hm1 rb1 hM1 => ?_)
      refine x_iinc (pc := 197) dX7_same_197 rfl (by decide) rfl ?_
      show Ex _ _ _ _ _ _ [_, _, _, _, _, _, _, _, _, _, _] _ _ _ _
      refine x_goto (pc := 200) (tgt := 65) dX7_same_200 (by decide) ?_
      exact ih (by omega) h1 M1 m1 g1 σ1 _ _ _ _ _ t1 (by omega) rb1 hM1 (fun h2 M2 m2 g2 σ2 v6 v7 v8 v9 v10 t2 f2 => hq h2 M2 m2 g2 σ2 v6 v7 v8 v9 v10 t2 (f1.tr f2))

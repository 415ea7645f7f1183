def rowT (s : Nat → Nat) (T : Nat → Int) (Lf : Nat → Bool) (p l a k x c : Nat) : Int := if frs s a (ta Lf k) ≤ c ∧ c < frs s a (ta Lf k) + s (ta Lf k) then (-(T (l * 128 + k * 16 + (c - frs s a (ta Lf k)) * 4 + x))) % p else if c = frs s a (so Lf k) + x then 1 else 0
def dnT (s : Nat → Nat) (Lf : Nat → Bool) (a b k i k' i' : Nat) : Prop := a ≤ k' ∧ k' < b ∧ i' < s (so Lf k') ∧ (k' < k ∨ (k' = k ∧ i' < i))
theorem dnT_end {s : Nat → Nat} {Lf : Nat → Bool} {a b k k' i' : Nat} : dnT s Lf a b (k + 1) 0 k' i' ↔ dnT s Lf a b k (s (so Lf k)) k' i' := by
  unfold dnT
  constructor
  · rintro ⟨q1, q2, q3, q4⟩
    refine ⟨q1, q2, q3, ?_⟩
    by_cases e : k' = k
    · right; subst e; exact ⟨rfl, q3⟩
    · left; omega
  · rintro ⟨q1, q2, q3, q4⟩
    exact ⟨q1, q2, q3, by omega⟩

theorem k_thr4 {G : GL} {d : Nat} {sz p N : Nat} (hz : 615 ≤ sz) (hN : 1 ≤ N ∧ N ≤ 8) (hP : isP p) {W : Nat → Nat} {S T : Nat → Int} {l a b : Nat} (hl : l < 8) {s : Nat → Nat} (hs : sz8 S l s) (hab : a ≤ b) (hb : b < N) {Q : Option AV → HP → Nat → Prop} {nn : Nat} (hT : inTm T p) {F : Nat → Int} (hF : ∀ j, a ≤ j → j ≤ b + 1 → F j = (frs s a j : Int)) {w : Nat} (hw : w = frs s a (b + 1)) {ld : Nat → Int} {Qs : Nat → Nat → Int} {k x : Nat} (hak : a ≤ k) (hk : k < b) (hx : x < s (so (Lw (W l)) k)) {m : Nat} (hm : m < 260) {g : Nat → Option Nat} {σ : Nat → Nat} : ∀ i, i ≤ s (ta (Lw (W l)) k) → ∀ (hp : HP) (M : Nat → Nat → Int), TS hp p N W S T M ld (m + 1) w g σ F Qs → (∀ h M1, TS h p N W S T M1 ld (m + 1) w g σ F Qs → Ft hp h → (∀ z, z ≠ m → M1 z = M z) → (∀ j, M1 m j = if frs s a (ta (Lw (W l)) k) + i ≤ j ∧ j < frs s a (ta (Lw (W l)) k) + s (ta (Lw (W l)) k) then (-(T (l * 128 + k * 16 + (j - frs s a (ta (Lw (W l)) k)) * 4 + x))) % p else M m j) → Ex G (d + 2) 0 0 mX7_through 155 [vr 92, vi l, vi a, vi b, vi nn, vi (w : Nat), vi k, vi (so (Lw (W l)) k : Nat), vi (ta (Lw (W l)) k : Nat), vi x, vr (σ m), vi (s (ta (Lw (W l)) k) : Nat)] [] h sz Q) → Ex G (d + 2) 0 0 mX7_through 104 [vr 92, vi l, vi a, vi b, vi nn, vi (w : Nat), vi k, vi (so (Lw (W l)) k : Nat), vi (ta (Lw (W l)) k : Nat), vi x, vr (σ m), vi i] [] hp sz Q := by
  have hst := so_ta (Lf := Lw (W l)) (k := k)
  have hso8 := frs_mono (s := s) (a := a) (so (Lw (W l)) k) (b + 1) (by omega) (by omega)
  have hta8 := frs_mono (s := s) (a := a) (ta (Lw (W l)) k) (b + 1) (by omega) (by omega)
  have hw8 := frs_le (s := s) (a := a) (fun k hk => (hs k hk).2) (b + 1) (by omega)
  have hs4 := (hs (so (Lw (W l)) k) (by omega)).2
  have ht4 := (hs (ta (Lw (W l)) k) (by omega)).2
  refine down (fun hp M t hq => ?_) (fun i hi ih hp M t hq => ?_)
  · obtain ⟨C, D, Mo, FA, ⟨gq, SA, SB⟩, SC⟩ := id t
    obtain ⟨C0, C1, C2, C3, C4, C5, C6, C7, C8, C11, C12, C13, C14, C15, C16, C17, C18, C19, C20, C21, C22, C23⟩ := id C
    have hob := C0.ob
    obtain ⟨D1, D2, D3, D4⟩ := id D
    obtain ⟨O1, O2, O3, O4, O5, O6⟩ := id Mo
    refine x_iload (pc := 104) dX7_through_104 rfl ?_
    refine x_aload_n (pc := 106) dX7_through_106 rfl ?_
    refine x_iload_n (pc := 107) dX7_through_107 rfl ?_
    refine x_iload (pc := 108) dX7_through_108 rfl ?_
    refine x_w2 (pc := 110) dX7_through_110 wX7_at iX7_at kX7_118 (by decide) rfl (Nat.le_of_ble_eq_true rfl) (by assumption) (by omega) (m_at C hz hN D hl (by omega)) ?_
    rw [(hs _ (by omega)).1]
    refine x_icmp_ge (pc := 113) (tgt := 155) dX7_through_113 (by decide) (by omega) (by omega) (fun c113 => ?_) (fun c113 => ?_)
    · exact hq hp M t Ft.rf (fun z _ => rfl) (fun j => by rw [if_neg (by omega)])
    · exact absurd c113 (by omega)
  · obtain ⟨C, D, Mo, FA, ⟨gq, SA, SB⟩, SC⟩ := id t
    obtain ⟨C0, C1, C2, C3, C4, C5, C6, C7, C8, C11, C12, C13, C14, C15, C16, C17, C18, C19, C20, C21, C22, C23⟩ := id C
    have hob := C0.ob
    obtain ⟨D1, D2, D3, D4⟩ := id D
    obtain ⟨O1, O2, O3, O4, O5, O6⟩ := id Mo
    obtain ⟨a1, a2, a3, a4⟩ := Mo.lt (i := m) hm
    refine x_iload (pc := 104) dX7_through_104 rfl ?_
    refine x_aload_n (pc := 106) dX7_through_106 rfl ?_
    refine x_iload_n (pc := 107) dX7_through_107 rfl ?_
    refine x_iload (pc := 108) dX7_through_108 rfl ?_
    refine x_w2 (pc := 110) dX7_through_110 wX7_at iX7_at kX7_118 (by decide) rfl (Nat.le_of_ble_eq_true rfl) (by assumption) (by omega) (m_at C hz hN D hl (by omega)) ?_
    rw [(hs _ (by omega)).1]
    refine x_icmp_ge (pc := 113) (tgt := 155) dX7_through_113 (by decide) (by omega) (by omega) (fun c113 => ?_) (fun c113 => ?_)
    · exact absurd c113 (by omega)
    · refine x_aload (pc := 116) dX7_through_116 rfl ?_
      refine x_aload_n (pc := 118) dX7_through_118 rfl ?_
      refine x_gf (pc := 119) dX7_through_119 fX7_36 (by assumption) (by omega) ?_
      refine x_iload (pc := 122) dX7_through_122 rfl ?_
      refine x_il (pc := 124) dX7_through_124 (by assumption) (by omega) rfl (by omega) ?_
      rw [hF (ta (Lw (W l)) k) (by omega) (by omega)]
      refine x_iload (pc := 125) dX7_through_125 rfl ?_
      refine x_iadd (pc := 127) dX7_through_127 ?_
      refine x_aload_n (pc := 128) dX7_through_128 rfl ?_
      refine x_aload_n (pc := 129) dX7_through_129 rfl ?_
      refine x_gf (pc := 130) dX7_through_130 fX7_16 (by assumption) (by omega) ?_
      refine x_iload_n (pc := 133) dX7_through_133 rfl ?_
      refine x_iload (pc := 134) dX7_through_134 rfl ?_
      refine x_iload (pc := 136) dX7_through_136 rfl ?_
      refine x_iload (pc := 138) dX7_through_138 rfl ?_
      refine x_t4 (pc := 140) dX7_through_140 wX7_cell sX7_cell kX7_128 (by decide) rfl (Nat.le_of_ble_eq_true rfl) (m_cell (l := l) (k := k) (r := i) (c := x)) ?_
      refine x_il (pc := 143) dX7_through_143 (by assumption) (by omega) rfl (by omega) ?_
      refine x_ineg (pc := 144) dX7_through_144 ?_
      refine x_w1 (pc := 145) dX7_through_145 wX7_rest iX7_rest kX7_132 (by decide) rfl (Nat.le_of_ble_eq_true rfl) (by assumption) (by omega) (m_rest C hz hN hP (by have := hT (l * 128 + k * 16 + i * 4 + x) (by omega); have := hP.le; omega)) ?_
      refine x_is (pc := 148) (j := frs s a (ta (Lw (W l)) k) + i) dX7_through_148 a4 (by omega) (by omega) (by omega) ?_
      refine x_iinc (pc := 149) dX7_through_149 rfl (by decide) rfl ?_
      show Ex _ _ _ _ _ _ [_, _, _, _, _, _, _, _, _, _, _, _] _ _ _ _
      refine x_goto (pc := 152) (tgt := 104) dX7_through_152 (by decide) ?_
      exact ih _ _ (t.row (i := m) hm) (fun h M1 t1 f1 e0 e1 => hq h M1 t1 ((Ft.rf.up (by omega) (by omega) (by omega) (by omega)).tr f1) (fun z hz9 => (e0 z hz9).trans (up_n _ _ hz9)) (fun j => by
        rw [e1 j, up_s]
        by_cases e : j = frs s a (ta (Lw (W l)) k) + i
        · subst e
          rw [if_neg (by omega), up_s, if_pos (by omega), show frs s a (ta (Lw (W l)) k) + i - frs s a (ta (Lw (W l)) k) = i by omega]
        · rw [up_n _ _ e]
          by_cases e2 : frs s a (ta (Lw (W l)) k) + i + 1 ≤ j ∧ j < frs s a (ta (Lw (W l)) k) + s (ta (Lw (W l)) k)
          · rw [if_pos (by omega), if_pos (by omega)]
          · rw [if_neg (by omega), if_neg (by omega)]))

theorem k_thr3 {G : GL} {d : Nat} {sz p N : Nat} (hz : 615 ≤ sz) (hN : 1 ≤ N ∧ N ≤ 8) (hP : isP p) {W : Nat → Nat} {S T : Nat → Int} {l a b : Nat} (hl : l < 8) {s : Nat → Nat} (hs : sz8 S l s) (hab : a ≤ b) (hb : b < N) {Q : Option AV → HP → Nat → Prop} {nn : Nat} (hT : inTm T p) {F : Nat → Int} (hF : ∀ j, a ≤ j → j ≤ b + 1 → F j = (frs s a j : Int)) {w : Nat} (hw : w = frs s a (b + 1)) {ld : Nat → Int} {Qs : Nat → Nat → Int} {k : Nat} (hak : a ≤ k) (hk : k < b) : ∀ x, x ≤ s (so (Lw (W l)) k) → ∀ (hp : HP) (M : Nat → Nat → Int) (m : Nat) (g : Nat → Option Nat) (σ : Nat → Nat) (v10 v11 : AV), TS hp p N W S T M ld m w g σ F Qs → m ≤ 4 * (k - a) + x → RwB m w M (dnT s (Lw (W l)) a b k x) (rowT s T (Lw (W l)) p l a) → inQ m w M p → (∀ h M1 m1 g1 σ1 v10 v11, TS h p N W S T M1 ld m1 w g1 σ1 F Qs → Ft hp h → m1 ≤ 4 * (k + 1 - a) → RwB m1 w M1 (dnT s (Lw (W l)) a b (k + 1) 0) (rowT s T (Lw (W l)) p l a) → inQ m1 w M1 p → Ex G (d + 2) 0 0 mX7_through 161 [vr 92, vi l, vi a, vi b, vi nn, vi (w : Nat), vi k, vi (so (Lw (W l)) k : Nat), vi (ta (Lw (W l)) k : Nat), vi (s (so (Lw (W l)) k) : Nat), v10, v11] [] h sz Q) → Ex G (d + 2) 0 0 mX7_through 69 [vr 92, vi l, vi a, vi b, vi nn, vi (w : Nat), vi k, vi (so (Lw (W l)) k : Nat), vi (ta (Lw (W l)) k : Nat), vi x, v10, v11] [] hp sz Q := by
  have hpl := hP.le
  have hst := so_ta (Lf := Lw (W l)) (k := k)
  have hso8 := frs_mono (s := s) (a := a) (so (Lw (W l)) k) (b + 1) (by omega) (by omega)
  have hta8 := frs_mono (s := s) (a := a) (ta (Lw (W l)) k) (b + 1) (by omega) (by omega)
  have hw8 := frs_le (s := s) (a := a) (fun k hk => (hs k hk).2) (b + 1) (by omega)
  have hs4 := (hs (so (Lw (W l)) k) (by omega)).2
  have ht4 := (hs (ta (Lw (W l)) k) (by omega)).2
  have hdis : frs s a (so (Lw (W l)) k) + s (so (Lw (W l)) k) ≤ frs s a (ta (Lw (W l)) k) ∨ frs s a (ta (Lw (W l)) k) + s (ta (Lw (W l)) k) ≤ frs s a (so (Lw (W l)) k) := by
    rcases hst with ⟨_, e1, e2⟩ | ⟨_, e1, e2⟩
    · right; rw [e1, e2]; exact frs_mono k (k + 1) hak (by omega)
    · left; rw [e1, e2]; exact frs_mono k (k + 1) hak (by omega)
  refine down (fun hp M m g σ v10 v11 t hm rb hM hq => ?_) (fun x hx ih hp M m g σ v10 v11 t hm rb hM hq => ?_)
  · obtain ⟨C, D, Mo, FA, ⟨gq, SA, SB⟩, SC⟩ := id t
    obtain ⟨C0, C1, C2, C3, C4, C5, C6, C7, C8, C11, C12, C13, C14, C15, C16, C17, C18, C19, C20, C21, C22, C23⟩ := id C
    have hob := C0.ob
    obtain ⟨D1, D2, D3, D4⟩ := id D
    obtain ⟨O1, O2, O3, O4, O5, O6⟩ := id Mo
    refine x_iload (pc := 69) dX7_through_69 rfl ?_
    refine x_aload_n (pc := 71) dX7_through_71 rfl ?_
    refine x_iload_n (pc := 72) dX7_through_72 rfl ?_
    refine x_iload (pc := 73) dX7_through_73 rfl ?_
    refine x_w2 (pc := 75) dX7_through_75 wX7_at iX7_at kX7_118 (by decide) rfl (Nat.le_of_ble_eq_true rfl) (by assumption) (by omega) (m_at C hz hN D hl (by omega)) ?_
    rw [(hs _ (by omega)).1]
    refine x_icmp_ge (pc := 78) (tgt := 161) dX7_through_78 (by decide) (by omega) (by omega) (fun c78 => ?_) (fun c78 => ?_)
    · exact hq hp M m g σ _ _ t Ft.rf (by omega) (rb.cg (fun k' i' => dnT_end)) hM
    · exact absurd c78 (by omega)
  · have hm9 : m < 260 := by omega
    obtain ⟨C, D, Mo, FA, ⟨gq, SA, SB⟩, SC⟩ := id t
    obtain ⟨C0, C1, C2, C3, C4, C5, C6, C7, C8, C11, C12, C13, C14, C15, C16, C17, C18, C19, C20, C21, C22, C23⟩ := id C
    have hob := C0.ob
    obtain ⟨D1, D2, D3, D4⟩ := id D
    obtain ⟨O1, O2, O3, O4, O5, O6⟩ := id Mo
    refine x_iload (pc := 69) dX7_through_69 rfl ?_
    refine x_aload_n (pc := 71) dX7_through_71 rfl ?_
    refine x_iload_n (pc := 72) dX7_through_72 rfl ?_
    refine x_iload (pc := 73) dX7_through_73 rfl ?_
    refine x_w2 (pc := 75) dX7_through_75 wX7_at iX7_at kX7_118 (by decide) rfl (Nat.le_of_ble_eq_true rfl) (by assumption) (by omega) (m_at C hz hN D hl (by omega)) ?_
    rw [(hs _ (by omega)).1]
    refine x_icmp_ge (pc := 78) (tgt := 161) dX7_through_78 (by decide) (by omega) (by omega) (fun c78 => ?_) (fun c78 => ?_)
    · exact absurd c78 (by omega)
    · refine x_aload_n (pc := 81) dX7_through_81 rfl ?_
      refine x_y0 (pc := 82) dX7_through_82 wX7_newRow iX7_newRow kX7_158 (by decide) rfl (Nat.le_of_ble_eq_true rfl) (by assumption) (by omega) (m_newRow C hz hN ⟨g, σ, Mo⟩ hm9 (by omega)) (fun v82 h82 e82 => ?_)
      obtain ⟨C1, f82, M1, g1, σ1, rfl, m1, n0, n1, n2⟩ := e82
      have t1 := t.of C1 m1 f82
      obtain ⟨C, D, Mo, FA, ⟨gq, SA, SB⟩, SC⟩ := id t1
      obtain ⟨C0, C1, C2, C3, C4, C5, C6, C7, C8, C11, C12, C13, C14, C15, C16, C17, C18, C19, C20, C21, C22, C23⟩ := id C
      have hob := C0.ob
      obtain ⟨a1, a2, a3, a4⟩ := Mo.lt (i := m) hm9
      refine x_astore (pc := 85) dX7_through_85 (by decide) rfl ?_
      show Ex _ _ _ _ _ _ [_, _, _, _, _, _, _, _, _, _, _, _] _ _ _ _
      refine x_aload (pc := 87) dX7_through_87 rfl ?_
      refine x_aload_n (pc := 89) dX7_through_89 rfl ?_
      refine x_gf (pc := 90) dX7_through_90 fX7_36 (by assumption) (by omega) ?_
      refine x_iload (pc := 93) dX7_through_93 rfl ?_
      refine x_il (pc := 95) dX7_through_95 (by assumption) (by omega) rfl (by omega) ?_
      rw [hF (so (Lw (W l)) k) (by omega) (by omega)]
      refine x_iload (pc := 96) dX7_through_96 rfl ?_
      refine x_iadd (pc := 98) dX7_through_98 ?_
      refine x_iconst (pc := 99) dX7_through_99 ?_
      refine x_is (pc := 100) (j := frs s a (so (Lw (W l)) k) + x) dX7_through_100 a4 (by omega) (by omega) (by omega) ?_
      refine x_iconst (pc := 101) dX7_through_101 ?_
      refine x_istore (pc := 102) dX7_through_102 (by decide) rfl ?_
      show Ex _ _ _ _ _ _ [_, _, _, _, _, _, _, _, _, _, _, _] _ _ _ _
      have t2 := t1.row (i := m) (f := up (M1 m) (frs s a (so (Lw (W l)) k) + x) 1) hm9
      refine k_thr4 (d := d) hz hN hP hl hs hab hb hT hF hw hak hk hx hm9 0 (by omega) _ _ t2 (fun h2 M2 t2 f2 e0 e1 => ?_)
      have hrow : ∀ c, c < w → M2 m c = rowT s T (Lw (W l)) p l a k x c := fun c hc => by
        unfold rowT
        rw [e1 c, up_s]
        by_cases e3 : frs s a (ta (Lw (W l)) k) ≤ c ∧ c < frs s a (ta (Lw (W l)) k) + s (ta (Lw (W l)) k)
        · rw [if_pos (by omega), if_pos e3]
        · rw [if_neg (by omega), if_neg e3]
          by_cases e : c = frs s a (so (Lw (W l)) k) + x
          · rw [e, up_s, if_pos rfl]
          · rw [up_n _ _ e, if_neg e, n1 _ hc]
      refine x_iinc (pc := 155) dX7_through_155 rfl (by decide) rfl ?_
      show Ex _ _ _ _ _ _ [_, _, _, _, _, _, _, _, _, _, _, _] _ _ _ _
      refine x_goto (pc := 158) (tgt := 69) dX7_through_158 (by decide) ?_
      exact ih _ _ (m + 1) g1 σ1 _ _ t2 (by omega) (rb.push (k := k) (i := x) (fun z hz9 => by rw [e0 z hz9, up_n _ _ hz9, n0 z hz9]) hrow (fun k' i' => by
        unfold dnT
        constructor
        · rintro ⟨q1, q2, q3, q4⟩
          by_cases e : k' = k ∧ i' = x
          · exact Or.inr e
          · left; exact ⟨q1, q2, q3, by omega⟩
        · rintro (⟨q1, q2, q3, q4⟩ | ⟨rfl, rfl⟩)
          · exact ⟨q1, q2, q3, by omega⟩
          · exact ⟨hak, hk, hx, by omega⟩)) (fun z c hz9 hc => by
        by_cases e : z = m
        · subst e
          rw [hrow c hc]
          unfold rowT
          split
          · exact emod_rg (by omega)
          · split <;> omega
        · rw [e0 z e, up_n _ _ e, n0 z e]; exact hM z c (by omega) hc) (fun h3 M3 m3 g3 σ3 v10 v11 t3 f3 => hq h3 M3 m3 g3 σ3 v10 v11 t3 (((f82.t.up (by omega) (by omega) (by omega) (by omega)).tr f2).tr f3))

theorem k_thr2 {G : GL} {d : Nat} {sz p N : Nat} (hz : 615 ≤ sz) (hN : 1 ≤ N ∧ N ≤ 8) (hP : isP p) {W : Nat → Nat} {S T : Nat → Int} {l a b : Nat} (hl : l < 8) {s : Nat → Nat} (hs : sz8 S l s) (hab : a ≤ b) (hb : b < N) {Q : Option AV → HP → Nat → Prop} {nn : Nat} (hT : inTm T p) {F : Nat → Int} (hF : ∀ j, a ≤ j → j ≤ b + 1 → F j = (frs s a j : Int)) {w : Nat} (hw : w = frs s a (b + 1)) {ld : Nat → Int} {Qs : Nat → Nat → Int} : ∀ k, k ≤ b → a ≤ k → ∀ (hp : HP) (M : Nat → Nat → Int) (m : Nat) (g : Nat → Option Nat) (σ : Nat → Nat) (v7 v8 v9 v10 v11 : AV), TS hp p N W S T M ld m w g σ F Qs → m ≤ 4 * (k - a) → RwB m w M (dnT s (Lw (W l)) a b k 0) (rowT s T (Lw (W l)) p l a) → inQ m w M p → (∀ h M1 m1 g1 σ1 v7 v8 v9 v10 v11, TS h p N W S T M1 ld m1 w g1 σ1 F Qs → Ft hp h → m1 ≤ 4 * (b - a) → RwB m1 w M1 (dnT s (Lw (W l)) a b b 0) (rowT s T (Lw (W l)) p l a) → inQ m1 w M1 p → Ex G (d + 2) 0 0 mX7_through 167 [vr 92, vi l, vi a, vi b, vi nn, vi (w : Nat), vi b, v7, v8, v9, v10, v11] [] h sz Q) → Ex G (d + 2) 0 0 mX7_through 42 [vr 92, vi l, vi a, vi b, vi nn, vi (w : Nat), vi k, v7, v8, v9, v10, v11] [] hp sz Q := by
  refine down (fun hak hp M m g σ v7 v8 v9 v10 v11 t hm rb hM hq => ?_) (fun k hk ih hak hp M m g σ v7 v8 v9 v10 v11 t hm rb hM hq => ?_)
  · obtain ⟨C, D, Mo, FA, ⟨gq, SA, SB⟩, SC⟩ := id t
    obtain ⟨C0, C1, C2, C3, C4, C5, C6, C7, C8, C11, C12, C13, C14, C15, C16, C17, C18, C19, C20, C21, C22, C23⟩ := id C
    have hob := C0.ob
    obtain ⟨D1, D2, D3, D4⟩ := id D
    obtain ⟨O1, O2, O3, O4, O5, O6⟩ := id Mo
    refine x_iload (pc := 42) dX7_through_42 rfl ?_
    refine x_iload_n (pc := 44) dX7_through_44 rfl ?_
    refine x_icmp_ge (pc := 45) (tgt := 167) dX7_through_45 (by decide) (by omega) (by omega) (fun c45 => ?_) (fun c45 => ?_)
    · exact hq hp M m g σ _ _ _ _ _ t Ft.rf hm rb hM
    · exact absurd c45 (by omega)
  · obtain ⟨C, D, Mo, FA, ⟨gq, SA, SB⟩, SC⟩ := id t
    obtain ⟨C0, C1, C2, C3, C4, C5, C6, C7, C8, C11, C12, C13, C14, C15, C16, C17, C18, C19, C20, C21, C22, C23⟩ := id C
    have hob := C0.ob
    obtain ⟨D1, D2, D3, D4⟩ := id D
    obtain ⟨O1, O2, O3, O4, O5, O6⟩ := id Mo
    refine x_iload (pc := 42) dX7_through_42 rfl ?_
    refine x_iload_n (pc := 44) dX7_through_44 rfl ?_
    refine x_icmp_ge (pc := 45) (tgt := 167) dX7_through_45 (by decide) (by omega) (by omega) (fun c45 => ?_) (fun c45 => ?_)
    · exact absurd c45 (by omega)
    · refine x_aload_n (pc := 48) dX7_through_48 rfl ?_
      refine x_iload_n (pc := 49) dX7_through_49 rfl ?_
      refine x_iload (pc := 50) dX7_through_50 rfl ?_
      refine x_w2 (pc := 52) dX7_through_52 wX7_source iX7_source kX7_121 (by decide) rfl (Nat.le_of_ble_eq_true rfl) (by assumption) (by omega) (m_source C hz hN D hl (k := k) (by omega)) ?_
      rw [show (if (W l).testBit k = true then k + 1 else k) = so (Lw (W l)) k from rfl]
      refine x_istore (pc := 55) dX7_through_55 (by decide) rfl ?_
      show Ex _ _ _ _ _ _ [_, _, _, _, _, _, _, _, _, _, _, _] _ _ _ _
      refine x_aload_n (pc := 57) dX7_through_57 rfl ?_
      refine x_iload_n (pc := 58) dX7_through_58 rfl ?_
      refine x_iload (pc := 59) dX7_through_59 rfl ?_
      refine x_w2 (pc := 61) dX7_through_61 wX7_target iX7_target kX7_115 (by decide) rfl (Nat.le_of_ble_eq_true rfl) (by assumption) (by omega) (m_target C hz hN D hl (k := k) (by omega)) ?_
      rw [show (if (W l).testBit k = true then k else k + 1) = ta (Lw (W l)) k from rfl]
      refine x_istore (pc := 64) dX7_through_64 (by decide) rfl ?_
      show Ex _ _ _ _ _ _ [_, _, _, _, _, _, _, _, _, _, _, _] _ _ _ _
      refine x_iconst (pc := 66) dX7_through_66 ?_
      refine x_istore (pc := 67) dX7_through_67 (by decide) rfl ?_
      show Ex _ _ _ _ _ _ [_, _, _, _, _, _, _, _, _, _, _, _] _ _ _ _
      refine k_thr3 (d := d) hz hN hP hl hs hab hb hT hF hw hak hk 0 (by omega) hp M m g σ _ _ t (by omega) rb hM (fun h1 M1 m1 g1 σ1 v10 v11 t1 f1 hm1 rb1 hM1 => ?_)
      refine x_iinc (pc := 161) dX7_through_161 rfl (by decide) rfl ?_
      show Ex _ _ _ _ _ _ [_, _, _, _, _, _, _, _, _, _, _, _] _ _ _ _
      refine x_goto (pc := 164) (tgt := 42) dX7_through_164 (by decide) ?_
      exact ih (by omega) h1 M1 m1 g1 σ1 _ _ _ _ _ t1 (by omega) rb1 hM1 (fun h2 M2 m2 g2 σ2 v7 v8 v9 v10 v11 t2 f2 => hq h2 M2 m2 g2 σ2 v7 v8 v9 v10 v11 t2 (f1.tr f2))

theorem k_thr6 {G : GL} {d : Nat} {sz p N : Nat} (hz : 615 ≤ sz) (hN : 1 ≤ N ∧ N ≤ 8) (hP : isP p) {W : Nat → Nat} {S T : Nat → Int} {l a b : Nat} (hl : l < 8) {s : Nat → Nat} (hs : sz8 S l s) (hab : a ≤ b) (hb : b < N) {Q : Option AV → HP → Nat → Prop} {nn w : Nat} (hnn : nn ≤ 32) (hw : s a ≤ w) (hw2 : w ≤ 130) {F ld : Nat → Int} {Qs : Nat → Nat → Int} {u6 : Int} {q m : Nat} (hq9 : q < nn) (hm : m < 260) {g : Nat → Option Nat} {σ : Nat → Nat} {v10 v11 : AV} : ∀ z, z ≤ s a → ∀ (hp : HP) (M : Nat → Nat → Int), TS hp p N W S T M ld (m + 1) w g σ F Qs → (∀ h M1, TS h p N W S T M1 ld (m + 1) w g σ F Qs → Ft hp h → (∀ x, x ≠ m → M1 x = M x) → (∀ j, M1 m j = if z ≤ j ∧ j < s a then Qs q j else M m j) → Ex G (d + 2) 0 0 mX7_through 224 [vr 92, vi l, vi a, vi b, vi nn, vi (w : Nat), vi u6, vi q, vr (σ m), vi (s a : Nat), v10, v11] [] h sz Q) → Ex G (d + 2) 0 0 mX7_through 192 [vr 92, vi l, vi a, vi b, vi nn, vi (w : Nat), vi u6, vi q, vr (σ m), vi z, v10, v11] [] hp sz Q := by
  have hs4 := (hs a (by omega)).2
  refine down (fun hp M t hq => ?_) (fun z hz9 ih hp M t hq => ?_)
  · obtain ⟨C, D, Mo, FA, ⟨gq, SA, SB⟩, SC⟩ := id t
    obtain ⟨C0, C1, C2, C3, C4, C5, C6, C7, C8, C11, C12, C13, C14, C15, C16, C17, C18, C19, C20, C21, C22, C23⟩ := id C
    have hob := C0.ob
    obtain ⟨D1, D2, D3, D4⟩ := id D
    obtain ⟨O1, O2, O3, O4, O5, O6⟩ := id Mo
    refine x_iload (pc := 192) dX7_through_192 rfl ?_
    refine x_aload_n (pc := 194) dX7_through_194 rfl ?_
    refine x_iload_n (pc := 195) dX7_through_195 rfl ?_
    refine x_iload_n (pc := 196) dX7_through_196 rfl ?_
    refine x_w2 (pc := 197) dX7_through_197 wX7_at iX7_at kX7_118 (by decide) rfl (Nat.le_of_ble_eq_true rfl) (by assumption) (by omega) (m_at C hz hN D hl (by omega)) ?_
    rw [(hs _ (by omega)).1]
    refine x_icmp_ge (pc := 200) (tgt := 224) dX7_through_200 (by decide) (by omega) (by omega) (fun c200 => ?_) (fun c200 => ?_)
    · exact hq hp M t Ft.rf (fun z _ => rfl) (fun j => by rw [if_neg (by omega)])
    · exact absurd c200 (by omega)
  · obtain ⟨C, D, Mo, FA, ⟨gq, SA, SB⟩, SC⟩ := id t
    obtain ⟨C0, C1, C2, C3, C4, C5, C6, C7, C8, C11, C12, C13, C14, C15, C16, C17, C18, C19, C20, C21, C22, C23⟩ := id C
    have hob := C0.ob
    obtain ⟨D1, D2, D3, D4⟩ := id D
    obtain ⟨O1, O2, O3, O4, O5, O6⟩ := id Mo
    obtain ⟨a1, a2, a3, a4⟩ := Mo.lt (i := m) hm
    refine x_iload (pc := 192) dX7_through_192 rfl ?_
    refine x_aload_n (pc := 194) dX7_through_194 rfl ?_
    refine x_iload_n (pc := 195) dX7_through_195 rfl ?_
    refine x_iload_n (pc := 196) dX7_through_196 rfl ?_
    refine x_w2 (pc := 197) dX7_through_197 wX7_at iX7_at kX7_118 (by decide) rfl (Nat.le_of_ble_eq_true rfl) (by assumption) (by omega) (m_at C hz hN D hl (by omega)) ?_
    rw [(hs _ (by omega)).1]
    refine x_icmp_ge (pc := 200) (tgt := 224) dX7_through_200 (by decide) (by omega) (by omega) (fun c200 => ?_) (fun c200 => ?_)
    · exact absurd c200 (by omega)
    · refine x_aload (pc := 203) dX7_through_203 rfl ?_
      refine x_iload (pc := 205) dX7_through_205 rfl ?_
      refine x_aload_n (pc := 207) dX7_through_207 rfl ?_
      refine x_gf (pc := 208) dX7_through_208 fX7_39 (by assumption) (by omega) ?_
      refine x_iload (pc := 211) dX7_through_211 rfl ?_
      refine x_al (pc := 213) dX7_through_213 (by assumption) (by omega) rfl (by omega) (SB q (by omega)) ?_
      refine x_iload (pc := 214) dX7_through_214 rfl ?_
      refine x_il (pc := 216) dX7_through_216 (SC q (by omega)) (by omega) rfl (by omega) ?_
      refine x_is (pc := 217) dX7_through_217 a4 (by omega) rfl (by omega) ?_
      refine x_iinc (pc := 218) dX7_through_218 rfl (by decide) rfl ?_
      show Ex _ _ _ _ _ _ [_, _, _, _, _, _, _, _, _, _, _, _] _ _ _ _
      refine x_goto (pc := 221) (tgt := 192) dX7_through_221 (by decide) ?_
      exact ih _ _ (t.row (i := m) hm) (fun h M1 t1 f1 e0 e1 => hq h M1 t1 ((Ft.rf.up (by omega) (by omega) (by omega) (by omega)).tr f1) (fun z hz9 => (e0 z hz9).trans (up_n _ _ hz9)) (fun j => by
        rw [e1 j, up_s]
        by_cases e : j = z
        · subst e
          rw [if_neg (by omega), up_s, if_pos (by omega)]
        · rw [up_n _ _ e]
          by_cases e2 : z + 1 ≤ j ∧ j < s a
          · rw [if_pos (by omega), if_pos (by omega)]
          · rw [if_neg (by omega), if_neg (by omega)]))

theorem k_thr5 {G : GL} {d : Nat} {sz p N : Nat} (hz : 615 ≤ sz) (hN : 1 ≤ N ∧ N ≤ 8) (hP : isP p) {W : Nat → Nat} {S T : Nat → Int} {l a b : Nat} (hl : l < 8) {s : Nat → Nat} (hs : sz8 S l s) (hab : a ≤ b) (hb : b < N) {Q : Option AV → HP → Nat → Prop} {nn w : Nat} (hnn : nn ≤ 32) (hw : s a ≤ w) (hw2 : w ≤ 130) {F ld : Nat → Int} {Qs : Nat → Nat → Int} {u6 : Int} {m : Nat} (hm : m ≤ 100) {v10 v11 : AV} : ∀ q, q ≤ nn → ∀ (hp : HP) (M : Nat → Nat → Int) (g : Nat → Option Nat) (σ : Nat → Nat) (v8 v9 : AV), TS hp p N W S T M ld (m + q) w g σ F Qs → (∀ h M1 g1 σ1 v8 v9, TS h p N W S T M1 ld (m + nn) w g1 σ1 F Qs → Ft hp h → (∀ x, x < m + q → M1 x = M x) → (∀ j, q ≤ j → j < nn → ∀ c, c < w → M1 (m + j) c = if c < s a then Qs j c else 0) → Ex G (d + 2) 0 0 mX7_through 230 [vr 92, vi l, vi a, vi b, vi nn, vi (w : Nat), vi u6, vi nn, v8, v9, v10, v11] [] h sz Q) → Ex G (d + 2) 0 0 mX7_through 176 [vr 92, vi l, vi a, vi b, vi nn, vi (w : Nat), vi u6, vi q, v8, v9, v10, v11] [] hp sz Q := by
  have hs4 := (hs a (by omega)).2
  refine down (fun hp M g σ v8 v9 t hq => ?_) (fun q hq9 ih hp M g σ v8 v9 t hq => ?_)
  · obtain ⟨C, D, Mo, FA, ⟨gq, SA, SB⟩, SC⟩ := id t
    obtain ⟨C0, C1, C2, C3, C4, C5, C6, C7, C8, C11, C12, C13, C14, C15, C16, C17, C18, C19, C20, C21, C22, C23⟩ := id C
    have hob := C0.ob
    obtain ⟨D1, D2, D3, D4⟩ := id D
    obtain ⟨O1, O2, O3, O4, O5, O6⟩ := id Mo
    refine x_iload (pc := 176) dX7_through_176 rfl ?_
    refine x_iload (pc := 178) dX7_through_178 rfl ?_
    refine x_icmp_ge (pc := 180) (tgt := 230) dX7_through_180 (by decide) (by omega) (by omega) (fun c180 => ?_) (fun c180 => ?_)
    · exact hq hp M g σ _ _ t Ft.rf (fun x _ => rfl) (fun j h1 h2 => absurd h2 (by omega))
    · exact absurd c180 (by omega)
  · obtain ⟨C, D, Mo, FA, ⟨gq, SA, SB⟩, SC⟩ := id t
    obtain ⟨C0, C1, C2, C3, C4, C5, C6, C7, C8, C11, C12, C13, C14, C15, C16, C17, C18, C19, C20, C21, C22, C23⟩ := id C
    have hob := C0.ob
    obtain ⟨D1, D2, D3, D4⟩ := id D
    obtain ⟨O1, O2, O3, O4, O5, O6⟩ := id Mo
    refine x_iload (pc := 176) dX7_through_176 rfl ?_
    refine x_iload (pc := 178) dX7_through_178 rfl ?_
    refine x_icmp_ge (pc := 180) (tgt := 230) dX7_through_180 (by decide) (by omega) (by omega) (fun c180 => ?_) (fun c180 => ?_)
    · exact absurd c180 (by omega)
    · refine x_aload_n (pc := 183) dX7_through_183 rfl ?_
      refine x_y0 (pc := 184) dX7_through_184 wX7_newRow iX7_newRow kX7_158 (by decide) rfl (Nat.le_of_ble_eq_true rfl) (by assumption) (by omega) (m_newRow C hz hN ⟨g, σ, Mo⟩ (by omega) (by omega)) (fun v184 h184 e184 => ?_)
      obtain ⟨C1, f184, M1, g1, σ1, rfl, m1, n0, n1, n2⟩ := e184
      have t1 := t.of C1 m1 f184
      refine x_astore (pc := 187) dX7_through_187 (by decide) rfl ?_
      show Ex _ _ _ _ _ _ [_, _, _, _, _, _, _, _, _, _, _, _] _ _ _ _
      refine x_iconst (pc := 189) dX7_through_189 ?_
      refine x_istore (pc := 190) dX7_through_190 (by decide) rfl ?_
      show Ex _ _ _ _ _ _ [_, _, _, _, _, _, _, _, _, _, _, _] _ _ _ _
      refine k_thr6 (d := d) hz hN hP hl hs hab hb hnn hw hw2 hq9 (by omega) 0 (by omega) _ M1 t1 (fun h2 M2 t2 f2 e0 e1 => ?_)
      refine x_iinc (pc := 224) dX7_through_224 rfl (by decide) rfl ?_
      show Ex _ _ _ _ _ _ [_, _, _, _, _, _, _, _, _, _, _, _] _ _ _ _
      refine x_goto (pc := 227) (tgt := 176) dX7_through_227 (by decide) ?_
      exact ih h2 M2 g1 σ1 _ _ (by rw [← Nat.add_assoc]; exact t2) (fun h3 M3 g3 σ3 v8 v9 t3 f3 e2 e3 => hq h3 M3 g3 σ3 v8 v9 t3 ((f184.t.tr f2).tr f3) (fun x hx => by rw [e2 x (by omega), e0 x (by omega), n0 x (by omega)]) (fun j h1 h2 c hc => by
        by_cases e : j = q
        · subst e
          rw [e2 _ (by omega), e1 c]
          by_cases e5 : c < s a
          · rw [if_pos (by omega), if_pos e5]
          · rw [if_neg (by omega), if_neg e5]; exact n1 c hc
        · exact e3 j (by omega) h2 c hc))

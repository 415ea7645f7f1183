
def TS (h : HP) (p N : Nat) (W : Nat → Nat) (S T : Nat → Int) (M : Nat → Nat → Int) (ld : Nat → Int) (m w : Nat) (g : Nat → Option Nat) (σ : Nat → Nat) (F : Nat → Int) (Qs : Nat → Nat → Int) : Prop :=
  ModA h p N ∧ MdS h W S T ∧ MoB h M ld m w g σ ∧ h 361 = ar 0 9 F ∧ (∃ g', h 362 = rr 5 33 g' ∧ ∀ i, i < 33 → g' i = some (363 + i)) ∧ ∀ i, i < 33 → h (363 + i) = ar 0 4 (Qs i)
/-- what such a call may change -/
def Ft (hp h : HP) : Prop := ∀ x, x ≠ 92 → (x < 98 ∨ x = 360 ∨ x = 362 ∨ 395 < x) → h x = hp x
theorem Ft.rf {hp : HP} : Ft hp hp := fun _ _ _ => rfl
theorem Ft.tr {h1 h2 h3 : HP} (a : Ft h1 h2) (b : Ft h2 h3) : Ft h1 h3 := fun x e1 e2 => (b x e1 e2).trans (a x e1 e2)
theorem Ft.up {hp h : HP} {a : Nat} {c : AC} (f : Ft hp h) (h1 : 98 ≤ a) (h2 : a ≤ 395) (h3 : a ≠ 360) (h4 : a ≠ 362) : Ft hp (up h a c) := fun x e1 e2 => (up_n _ _ (by omega)).trans (f x e1 e2)
theorem Fm.t {hp h : HP} (f : Fm hp h) : Ft hp h := fun x e1 e2 => f x e1 (by omega)
theorem TS.fr {h : HP} {p N : Nat} {W : Nat → Nat} {S T : Nat → Int} {M : Nat → Nat → Int} {ld : Nat → Int} {m w : Nat} {g : Nat → Option Nat} {σ : Nat → Nat} {F : Nat → Int} {Qs : Nat → Nat → Int} {F' : Nat → Int} (t : TS h p N W S T M ld m w g σ F Qs) : TS (up h 361 (ar 0 9 F')) p N W S T M ld m w g σ F' Qs := by
  obtain ⟨t1, t2, t3, t4, ⟨g', t5, t5b⟩, t6⟩ := t
  exact ⟨t1.keep (up_n _ _ (by omega)), t2.keep (fun x h1 h2 => up_n _ _ (by omega)), t3.keep (up_n _ _ (by omega)) (fun x h1 h2 => up_n _ _ (by omega)), up_s _ _ _, ⟨g', (up_n _ _ (by omega)).trans t5, t5b⟩, fun i hi => (up_n _ _ (by omega)).trans (t6 i hi)⟩
theorem TS.row {h : HP} {p N : Nat} {W : Nat → Nat} {S T : Nat → Int} {M : Nat → Nat → Int} {ld : Nat → Int} {m w : Nat} {g : Nat → Option Nat} {σ : Nat → Nat} {F : Nat → Int} {Qs : Nat → Nat → Int} {i : Nat} {f : Nat → Int} (t : TS h p N W S T M ld m w g σ F Qs) (hi : i < 260) : TS (up h (σ i) (ar 0 130 f)) p N W S T (up M i f) ld m w g σ F Qs := by
  obtain ⟨t1, t2, t3, t4, ⟨g', t5, t5b⟩, t6⟩ := t
  obtain ⟨a1, a2, a3, a4⟩ := t3.lt hi
  exact ⟨t1.keep (up_n _ _ (by omega)), t2.keep (fun x h1 h2 => up_n _ _ (by omega)), t3.row hi, (up_n _ _ (by omega)).trans t4, ⟨g', (up_n _ _ (by omega)).trans t5, t5b⟩, fun i hi => (up_n _ _ (by omega)).trans (t6 i hi)⟩
theorem TS.sm {h : HP} {p N : Nat} {W : Nat → Nat} {S T : Nat → Int} {M : Nat → Nat → Int} {ld : Nat → Int} {m w : Nat} {g : Nat → Option Nat} {σ : Nat → Nat} {F : Nat → Int} {Qs : Nat → Nat → Int} {i : Nat} {f : Nat → Int} (t : TS h p N W S T M ld m w g σ F Qs) (hi : i < 33) : TS (up h (363 + i) (ar 0 4 f)) p N W S T M ld m w g σ F (up Qs i f) := by
  obtain ⟨t1, t2, t3, t4, ⟨g', t5, t5b⟩, t6⟩ := t
  refine ⟨t1.keep (up_n _ _ (by omega)), t2.keep (fun x h1 h2 => up_n _ _ (by omega)), t3.keep (up_n _ _ (by omega)) (fun x h1 h2 => up_n _ _ (by omega)), (up_n _ _ (by omega)).trans t4, ⟨g', (up_n _ _ (by omega)).trans t5, t5b⟩, fun j hj => ?_⟩
  by_cases e : j = i
  · subst e; rw [up_s, up_s]
  · rw [up_n _ _ e, up_n _ _ (by omega)]; exact t6 j hj
theorem TS.of {h h' : HP} {p N : Nat} {W : Nat → Nat} {S T : Nat → Int} {M : Nat → Nat → Int} {ld : Nat → Int} {m w : Nat} {g : Nat → Option Nat} {σ : Nat → Nat} {F : Nat → Int} {Qs : Nat → Nat → Int} {M' : Nat → Nat → Int} {ld' : Nat → Int} {m' w' : Nat} {g' : Nat → Option Nat} {σ' : Nat → Nat} (t : TS h p N W S T M ld m w g σ F Qs) (C : ModA h' p N) (Mo : MoB h' M' ld' m' w' g' σ') (f : Fm h h') : TS h' p N W S T M' ld' m' w' g' σ' F Qs := by
  obtain ⟨t1, t2, t3, t4, ⟨g', t5, t5b⟩, t6⟩ := t
  exact ⟨C, t2.keep (fun x h1 h2 => f x (by omega) (by omega)), Mo, (f _ (by omega) (by omega)).trans t4, ⟨g', (f _ (by omega) (by omega)).trans t5, t5b⟩, fun i hi => (f _ (by omega) (by omega)).trans (t6 i hi)⟩
/-- where each post's places begin -/
def frs (s : Nat → Nat) (a : Nat) : Nat → Nat
  | 0 => 0
  | k + 1 => if a ≤ k then frs s a k + s k else 0
theorem frs_a (s : Nat → Nat) (a : Nat) : frs s a a = 0 := by
  cases a with
  | zero => rfl
  | succ a => exact if_neg (by omega)
theorem frs_s {s : Nat → Nat} {a k : Nat} (h : a ≤ k) : frs s a (k + 1) = frs s a k + s k := if_pos h
theorem frs_le {s : Nat → Nat} {a : Nat} (hs : ∀ k, k < 8 → s k ≤ 4) : ∀ k, k ≤ 8 → frs s a k ≤ 4 * k
  | 0, _ => Nat.le_refl _
  | k + 1, hk => by
    have ih := frs_le (a := a) hs k (by omega)
    have := hs k (by omega)
    unfold frs
    split <;> omega
theorem frs_mono {s : Nat → Nat} {a : Nat} : ∀ k j, a ≤ k → k < j → frs s a k + s k ≤ frs s a j := by
  intro k j hk hj
  obtain ⟨d, rfl⟩ : ∃ d, j = k + 1 + d := ⟨j - (k + 1), by omega⟩
  clear hj
  induction d with
  | zero => rw [Nat.add_zero, frs_s hk]; omega
  | succ d ih => rw [← Nat.add_assoc, frs_s (by omega)]; omega
def sz8 (S : Nat → Int) (l : Nat) (s : Nat → Nat) : Prop := ∀ k, k < 8 → S (8 * l + k) = (s k : Int) ∧ s k ≤ 4
def inTm (T : Nat → Int) (p : Nat) : Prop := ∀ x, x < 1024 → 0 ≤ T x ∧ T x < p
def Lw (W : Nat) : Nat → Bool := fun k => W.testBit k
/-- the rows so far are just those that are done -/
def RwB (m w : Nat) (M : Nat → Nat → Int) (dn : Nat → Nat → Prop) (row : Nat → Nat → Nat → Int) : Prop := (∀ j, j < m → ∃ k i, dn k i ∧ ∀ c, c < w → M j c = row k i c) ∧ ∀ k i, dn k i → ∃ j, j < m ∧ ∀ c, c < w → M j c = row k i c
theorem RwB.push {m w : Nat} {M M' : Nat → Nat → Int} {dn dn' : Nat → Nat → Prop} {row : Nat → Nat → Nat → Int} {k i : Nat} (h : RwB m w M dn row) (e0 : ∀ x, x ≠ m → M' x = M x) (e1 : ∀ c, c < w → M' m c = row k i c) (hd : ∀ k' i', dn' k' i' ↔ dn k' i' ∨ (k' = k ∧ i' = i)) : RwB (m + 1) w M' dn' row := by
  refine ⟨fun j hj => ?_, fun k' i' hdn => ?_⟩
  · by_cases e : j = m
    · subst e; exact ⟨k, i, (hd k i).mpr (Or.inr ⟨rfl, rfl⟩), e1⟩
    · obtain ⟨k', i', a1, a2⟩ := h.1 j (by omega)
      exact ⟨k', i', (hd k' i').mpr (Or.inl a1), by rw [e0 j e]; exact a2⟩
  · rcases (hd k' i').mp hdn with q | ⟨rfl, rfl⟩
    · obtain ⟨j, a1, a2⟩ := h.2 k' i' q
      exact ⟨j, by omega, by rw [e0 j (by omega)]; exact a2⟩
    · exact ⟨m, by omega, e1⟩
theorem RwB.cg {m w : Nat} {M : Nat → Nat → Int} {dn dn' : Nat → Nat → Prop} {row : Nat → Nat → Nat → Int} (h : RwB m w M dn row) (hd : ∀ k' i', dn' k' i' ↔ dn k' i') : RwB m w M dn' row :=
  ⟨fun j hj => by obtain ⟨k, i, a1, a2⟩ := h.1 j hj; exact ⟨k, i, (hd k i).mpr a1, a2⟩, fun k i q => h.2 k i ((hd k i).mp q)⟩

theorem k_same1 {G : GL} {d : Nat} {sz p N : Nat} (hz : 615 ≤ sz) (hN : 1 ≤ N ∧ N ≤ 8) (hP : isP p) {W : Nat → Nat} {S T : Nat → Int} {l a b : Nat} (hl : l < 8) {s : Nat → Nat} (hs : sz8 S l s) (hab : a ≤ b) (hb : b < N) {Q : Option AV → HP → Nat → Prop} {M : Nat → Nat → Int} {ld : Nat → Int} {m w : Nat} {g : Nat → Option Nat} {σ : Nat → Nat} {Qs : Nat → Nat → Int} {v5 v6 v7 v8 v9 v10 : AV} : ∀ k, k ≤ b + 1 → a ≤ k → ∀ (hp : HP) (F : Nat → Int), TS hp p N W S T M ld m w g σ F Qs → (∀ j, a ≤ j → j ≤ k → F j = (frs s a j : Int)) → (∀ h F1, TS h p N W S T M ld m w g σ F1 Qs → Ft hp h → (∀ j, a ≤ j → j ≤ b + 1 → F1 j = (frs s a j : Int)) → Ex G (d + 2) 0 0 mX7_same 46 [vr 92, vi l, vi a, vi b, vi (b + 1 : Nat), v5, v6, v7, v8, v9, v10] [] h sz Q) → Ex G (d + 2) 0 0 mX7_same 10 [vr 92, vi l, vi a, vi b, vi k, v5, v6, v7, v8, v9, v10] [] hp sz Q := by
  refine down (fun hak hp F t hF hq => ?_) (fun k hk ih hak hp F t hF hq => ?_)
  · obtain ⟨C, D, Mo, FA, ⟨gq, SA, SB⟩, SC⟩ := id t
    obtain ⟨C0, C1, C2, C3, C4, C5, C6, C7, C8, C11, C12, C13, C14, C15, C16, C17, C18, C19, C20, C21, C22, C23⟩ := id C
    have hob := C0.ob
    obtain ⟨D1, D2, D3, D4⟩ := id D
    obtain ⟨O1, O2, O3, O4, O5, O6⟩ := id Mo
    refine x_iload (pc := 10) dX7_same_10 rfl ?_
    refine x_iload_n (pc := 12) dX7_same_12 rfl ?_
    refine x_icmp_gt (pc := 13) (tgt := 46) dX7_same_13 (by decide) (by omega) (by omega) (fun c13 => ?_) (fun c13 => ?_)
    · exact hq hp F t Ft.rf (fun j h1 h2 => hF j h1 (by omega))
    · exact absurd c13 (by omega)
  · obtain ⟨C, D, Mo, FA, ⟨gq, SA, SB⟩, SC⟩ := id t
    obtain ⟨C0, C1, C2, C3, C4, C5, C6, C7, C8, C11, C12, C13, C14, C15, C16, C17, C18, C19, C20, C21, C22, C23⟩ := id C
    have hob := C0.ob
    obtain ⟨D1, D2, D3, D4⟩ := id D
    obtain ⟨O1, O2, O3, O4, O5, O6⟩ := id Mo
    refine x_iload (pc := 10) dX7_same_10 rfl ?_
    refine x_iload_n (pc := 12) dX7_same_12 rfl ?_
    refine x_icmp_gt (pc := 13) (tgt := 46) dX7_same_13 (by decide) (by omega) (by omega) (fun c13 => ?_) (fun c13 => ?_)
    · exact absurd c13 (by omega)
    · refine x_aload_n (pc := 16) dX7_same_16 rfl ?_
      refine x_gf (pc := 17) dX7_same_17 fX7_36 (by assumption) (by omega) ?_
      refine x_iload (pc := 20) dX7_same_20 rfl ?_
      refine x_iconst (pc := 22) dX7_same_22 ?_
      refine x_iadd (pc := 23) dX7_same_23 ?_
      refine x_aload_n (pc := 24) dX7_same_24 rfl ?_
      refine x_gf (pc := 25) dX7_same_25 fX7_36 (by assumption) (by omega) ?_
      refine x_iload (pc := 28) dX7_same_28 rfl ?_
      refine x_il (pc := 30) dX7_same_30 (by assumption) (by omega) rfl (by omega) ?_
      rw [hF k hak (Nat.le_refl _)]
      refine x_aload_n (pc := 31) dX7_same_31 rfl ?_
      refine x_iload_n (pc := 32) dX7_same_32 rfl ?_
      refine x_iload (pc := 33) dX7_same_33 rfl ?_
      refine x_w2 (pc := 35) dX7_same_35 wX7_at iX7_at kX7_118 (by decide) rfl (Nat.le_of_ble_eq_true rfl) (by assumption) (by omega) (m_at C hz hN D hl (by omega)) ?_
      rw [(hs k (by omega)).1]
      refine x_iadd (pc := 38) dX7_same_38 ?_
      refine x_is (pc := 39) (j := k + 1) dX7_same_39 (by assumption) (by omega) (by omega) (by omega) ?_
      refine x_iinc (pc := 40) dX7_same_40 rfl (by decide) rfl ?_
      show Ex _ _ _ _ _ _ [_, _, _, _, _, _, _, _, _, _, _] _ _ _ _
      refine x_goto (pc := 43) (tgt := 10) dX7_same_43 (by decide) ?_
      exact ih (by omega) _ _ t.fr (fun j h1 h2 => by
        by_cases e : j = k + 1
        · subst e; rw [up_s, frs_s hak]; omega
        · rw [up_n _ _ e]; exact hF j h1 (by omega)) (fun h F1 t1 f1 e1 => hq h F1 t1 ((Ft.rf.up (by omega) (by omega) (by omega) (by omega)).tr f1) e1)

def rowS (s : Nat → Nat) (T : Nat → Int) (Lf : Nat → Bool) (p l a k i c : Nat) : Int := if frs s a (so Lf k) ≤ c ∧ c < frs s a (so Lf k) + s (so Lf k) then T (l * 128 + k * 16 + i * 4 + (c - frs s a (so Lf k))) else if c = frs s a (ta Lf k) + i then (p : Int) - 1 else 0

theorem k_same4 {G : GL} {d : Nat} {sz p N : Nat} (hz : 615 ≤ sz) (hN : 1 ≤ N ∧ N ≤ 8) (hP : isP p) {W : Nat → Nat} {S T : Nat → Int} {l a b : Nat} (hl : l < 8) {s : Nat → Nat} (hs : sz8 S l s) (hab : a ≤ b) (hb : b < N) {Q : Option AV → HP → Nat → Prop} {F : Nat → Int} (hF : ∀ j, a ≤ j → j ≤ b + 1 → F j = (frs s a j : Int)) {k i : Nat} (hak : a ≤ k) (hk : k < b) (hi : i < s (ta (Lw (W l)) k)) {w m : Nat} (hw : w = frs s a (b + 1)) (hm : m < 260) {ld : Nat → Int} {g : Nat → Option Nat} {σ : Nat → Nat} {Qs : Nat → Nat → Int} : ∀ x, x ≤ s (so (Lw (W l)) k) → ∀ (hp : HP) (M : Nat → Nat → Int), TS hp p N W S T M ld (m + 1) w g σ F Qs → (∀ h M1, TS h p N W S T M1 ld (m + 1) w g σ F Qs → Ft hp h → (∀ z, z ≠ m → M1 z = M z) → (∀ j, M1 m j = if frs s a (so (Lw (W l)) k) + x ≤ j ∧ j < frs s a (so (Lw (W l)) k) + s (so (Lw (W l)) k) then T (l * 128 + k * 16 + i * 4 + (j - frs s a (so (Lw (W l)) k))) else M m j) → Ex G (d + 2) 0 0 mX7_same 159 [vr 92, vi l, vi a, vi b, vi (w : Nat), vi k, vi (so (Lw (W l)) k : Nat), vi (ta (Lw (W l)) k : Nat), vi i, vr (σ m), vi (s (so (Lw (W l)) k) : Nat)] [] h sz Q) → Ex G (d + 2) 0 0 mX7_same 113 [vr 92, vi l, vi a, vi b, vi (w : Nat), vi k, vi (so (Lw (W l)) k : Nat), vi (ta (Lw (W l)) k : Nat), vi i, vr (σ m), vi x] [] hp sz Q := by
  have hst := so_ta (Lf := Lw (W l)) (k := k)
  have hso8 := frs_mono (s := s) (a := a) (so (Lw (W l)) k) (b + 1) (by omega) (by omega)
  have hta8 := frs_mono (s := s) (a := a) (ta (Lw (W l)) k) (b + 1) (by omega) (by omega)
  have hw8 := frs_le (s := s) (a := a) (fun k hk => (hs k hk).2) (b + 1) (by omega)
  have hs4 := (hs (so (Lw (W l)) k) (by omega)).2
  have ht4 := (hs (ta (Lw (W l)) k) (by omega)).2
  refine down (fun hp M t hq => ?_) (fun x hx ih hp M t hq => ?_)
  · obtain ⟨C, D, Mo, FA, ⟨gq, SA, SB⟩, SC⟩ := id t
    obtain ⟨C0, C1, C2, C3, C4, C5, C6, C7, C8, C11, C12, C13, C14, C15, C16, C17, C18, C19, C20, C21, C22, C23⟩ := id C
    have hob := C0.ob
    obtain ⟨D1, D2, D3, D4⟩ := id D
    obtain ⟨O1, O2, O3, O4, O5, O6⟩ := id Mo
    refine x_iload (pc := 113) dX7_same_113 rfl ?_
    refine x_aload_n (pc := 115) dX7_same_115 rfl ?_
    refine x_iload_n (pc := 116) dX7_same_116 rfl ?_
    refine x_iload (pc := 117) dX7_same_117 rfl ?_
    refine x_w2 (pc := 119) dX7_same_119 wX7_at iX7_at kX7_118 (by decide) rfl (Nat.le_of_ble_eq_true rfl) (by assumption) (by omega) (m_at C hz hN D hl (by omega)) ?_
    rw [(hs _ (by omega)).1]
    refine x_icmp_ge (pc := 122) (tgt := 159) dX7_same_122 (by decide) (by omega) (by omega) (fun c122 => ?_) (fun c122 => ?_)
    · exact hq hp M t Ft.rf (fun z _ => rfl) (fun j => by rw [if_neg (by omega)])
    · exact absurd c122 (by omega)
  · obtain ⟨C, D, Mo, FA, ⟨gq, SA, SB⟩, SC⟩ := id t
    obtain ⟨C0, C1, C2, C3, C4, C5, C6, C7, C8, C11, C12, C13, C14, C15, C16, C17, C18, C19, C20, C21, C22, C23⟩ := id C
    have hob := C0.ob
    obtain ⟨D1, D2, D3, D4⟩ := id D
    obtain ⟨O1, O2, O3, O4, O5, O6⟩ := id Mo
    obtain ⟨a1, a2, a3, a4⟩ := Mo.lt (i := m) hm
    refine x_iload (pc := 113) dX7_same_113 rfl ?_
    refine x_aload_n (pc := 115) dX7_same_115 rfl ?_
    refine x_iload_n (pc := 116) dX7_same_116 rfl ?_
    refine x_iload (pc := 117) dX7_same_117 rfl ?_
    refine x_w2 (pc := 119) dX7_same_119 wX7_at iX7_at kX7_118 (by decide) rfl (Nat.le_of_ble_eq_true rfl) (by assumption) (by omega) (m_at C hz hN D hl (by omega)) ?_
    rw [(hs _ (by omega)).1]
    refine x_icmp_ge (pc := 122) (tgt := 159) dX7_same_122 (by decide) (by omega) (by omega) (fun c122 => ?_) (fun c122 => ?_)
    · exact absurd c122 (by omega)
    · refine x_aload (pc := 125) dX7_same_125 rfl ?_
      refine x_aload_n (pc := 127) dX7_same_127 rfl ?_
      refine x_gf (pc := 128) dX7_same_128 fX7_36 (by assumption) (by omega) ?_
      refine x_iload (pc := 131) dX7_same_131 rfl ?_
      refine x_il (pc := 133) dX7_same_133 (by assumption) (by omega) rfl (by omega) ?_
      rw [hF (so (Lw (W l)) k) (by omega) (by omega)]
      refine x_iload (pc := 134) dX7_same_134 rfl ?_
      refine x_iadd (pc := 136) dX7_same_136 ?_
      refine x_aload_n (pc := 137) dX7_same_137 rfl ?_
      refine x_gf (pc := 138) dX7_same_138 fX7_16 (by assumption) (by omega) ?_
      refine x_iload_n (pc := 141) dX7_same_141 rfl ?_
      refine x_iload (pc := 142) dX7_same_142 rfl ?_
      refine x_iload (pc := 144) dX7_same_144 rfl ?_
      refine x_iload (pc := 146) dX7_same_146 rfl ?_
      refine x_t4 (pc := 148) dX7_same_148 wX7_cell sX7_cell kX7_128 (by decide) rfl (Nat.le_of_ble_eq_true rfl) (m_cell (l := l) (k := k) (r := i) (c := x)) ?_
      refine x_il (pc := 151) dX7_same_151 (by assumption) (by omega) rfl (by omega) ?_
      refine x_is (pc := 152) (j := frs s a (so (Lw (W l)) k) + x) dX7_same_152 a4 (by omega) (by omega) (by omega) ?_
      refine x_iinc (pc := 153) dX7_same_153 rfl (by decide) rfl ?_
      show Ex _ _ _ _ _ _ [_, _, _, _, _, _, _, _, _, _, _] _ _ _ _
      refine x_goto (pc := 156) (tgt := 113) dX7_same_156 (by decide) ?_
      exact ih _ _ (t.row (i := m) hm) (fun h M1 t1 f1 e0 e1 => hq h M1 t1 ((Ft.rf.up (by omega) (by omega) (by omega) (by omega)).tr f1) (fun z hz9 => (e0 z hz9).trans (up_n _ _ hz9)) (fun j => by
        rw [e1 j, up_s]
        by_cases e : j = frs s a (so (Lw (W l)) k) + x
        · subst e
          rw [if_neg (by omega), up_s, if_pos (by omega), show frs s a (so (Lw (W l)) k) + x - frs s a (so (Lw (W l)) k) = x by omega]
        · rw [up_n _ _ e]
          by_cases e2 : frs s a (so (Lw (W l)) k) + x + 1 ≤ j ∧ j < frs s a (so (Lw (W l)) k) + s (so (Lw (W l)) k)
          · rw [if_pos (by omega), if_pos (by omega)]
          · rw [if_neg (by omega), if_neg (by omega)]))

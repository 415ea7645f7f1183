/-- the model's rows: the outer array at 98, 260 rows at 99 .. 358 in some order, lead at 359 -/
def MoB (hp : HP) (M : Nat → Nat → Int) (ld : Nat → Int) (m w : Nat) (g : Nat → Option Nat) (σ : Nat → Nat) : Prop :=
  fld hp 92 7 9 (vi m) ∧ fld hp 92 7 10 (vi w) ∧ hp 359 = ar 0 260 ld ∧ hp 98 = rr 5 260 g ∧ (∀ i, i < 260 → g i = some (σ i) ∧ 99 ≤ σ i ∧ σ i ≤ 358 ∧ hp (σ i) = ar 0 130 (M i)) ∧ ∀ i j, i < 260 → j < 260 → σ i = σ j → i = j
def MoA (hp : HP) (M : Nat → Nat → Int) (ld : Nat → Int) (m w : Nat) : Prop := ∃ g σ, MoB hp M ld m w g σ
theorem MoB.keep {hp hp' : HP} {m w : Nat} {M : Nat → Nat → Int} {ld : Nat → Int} {g : Nat → Option Nat} {σ : Nat → Nat} (h : MoB hp M ld m w g σ) (e0 : hp' 92 = hp 92) (e : ∀ x, 98 ≤ x → x ≤ 359 → hp' x = hp x) : MoB hp' M ld m w g σ := by
  obtain ⟨h1, h2, h3, h4, h5, h6⟩ := h
  refine ⟨h1.keep e0, h2.keep e0, (e _ (by omega) (by omega)).trans h3, (e _ (by omega) (by omega)).trans h4, fun i hi => ?_, h6⟩
  obtain ⟨a1, a2, a3, a4⟩ := h5 i hi
  exact ⟨a1, a2, a3, (e _ (by omega) (by omega)).trans a4⟩
theorem MoB.lt {hp : HP} {m w i : Nat} {M : Nat → Nat → Int} {ld : Nat → Int} {g : Nat → Option Nat} {σ : Nat → Nat} (h : MoB hp M ld m w g σ) (hi : i < 260) : g i = some (σ i) ∧ 99 ≤ σ i ∧ σ i ≤ 358 ∧ hp (σ i) = ar 0 130 (M i) := h.2.2.2.2.1 i hi
theorem MoB.row {hp : HP} {m w i : Nat} {M : Nat → Nat → Int} {ld f : Nat → Int} {g : Nat → Option Nat} {σ : Nat → Nat} (h : MoB hp M ld m w g σ) (hi : i < 260) : MoB (up hp (σ i) (ar 0 130 f)) (up M i f) ld m w g σ := by
  obtain ⟨h1, h2, h3, h4, h5, h6⟩ := h
  obtain ⟨a1, a2, a3, a4⟩ := h5 i hi
  refine ⟨h1.up (by omega), h2.up (by omega), (up_n _ _ (by omega)).trans h3, (up_n _ _ (by omega)).trans h4, fun j hj => ?_, h6⟩
  obtain ⟨b1, b2, b3, b4⟩ := h5 j hj
  refine ⟨b1, b2, b3, ?_⟩
  by_cases e : j = i
  · subst e
    rw [up_s, up_s]
  · rw [up_n _ _ e, up_n _ _ (fun z => e (h6 j i hj hi z))]
    exact b4
theorem MoB.lds {hp : HP} {m w : Nat} {M : Nat → Nat → Int} {ld f : Nat → Int} {g : Nat → Option Nat} {σ : Nat → Nat} (h : MoB hp M ld m w g σ) : MoB (up hp 359 (ar 0 260 f)) M f m w g σ := by
  obtain ⟨h1, h2, h3, h4, h5, h6⟩ := h
  refine ⟨h1.up (by omega), h2.up (by omega), up_s _ _ _, (up_n _ _ (by omega)).trans h4, fun j hj => ?_, h6⟩
  obtain ⟨b1, b2, b3, b4⟩ := h5 j hj
  exact ⟨b1, b2, b3, (up_n _ _ (by omega)).trans b4⟩
theorem MoB.pfm {hp hp' : HP} {m w m' : Nat} {M : Nat → Nat → Int} {ld : Nat → Int} {g : Nat → Option Nat} {σ : Nat → Nat} (h : MoB hp M ld m w g σ) (e : pf hp 92 7 9 (vi m') hp') : MoB hp' M ld m' w g σ := by
  obtain ⟨h1, h2, h3, h4, h5, h6⟩ := h
  refine ⟨e.2.1, e.2.2 _ _ (by decide) h2, (e.1 _ (by omega)).trans h3, (e.1 _ (by omega)).trans h4, fun j hj => ?_, h6⟩
  obtain ⟨b1, b2, b3, b4⟩ := h5 j hj
  exact ⟨b1, b2, b3, (e.1 _ (by omega)).trans b4⟩
theorem MoB.pfw {hp hp' : HP} {m w w' : Nat} {M : Nat → Nat → Int} {ld : Nat → Int} {g : Nat → Option Nat} {σ : Nat → Nat} (h : MoB hp M ld m w g σ) (e : pf hp 92 7 10 (vi w') hp') : MoB hp' M ld m w' g σ := by
  obtain ⟨h1, h2, h3, h4, h5, h6⟩ := h
  refine ⟨e.2.2 _ _ (by decide) h1, e.2.1, (e.1 _ (by omega)).trans h3, (e.1 _ (by omega)).trans h4, fun j hj => ?_, h6⟩
  obtain ⟨b1, b2, b3, b4⟩ := h5 j hj
  exact ⟨b1, b2, b3, (e.1 _ (by omega)).trans b4⟩
theorem MoB.cg {hp : HP} {m w : Nat} {M M' : Nat → Nat → Int} {ld : Nat → Int} {g : Nat → Option Nat} {σ : Nat → Nat} (h : MoB hp M ld m w g σ) (e : ∀ i, i < 260 → M i = M' i) : MoB hp M' ld m w g σ := by
  obtain ⟨h1, h2, h3, h4, h5, h6⟩ := h
  refine ⟨h1, h2, h3, h4, fun i hi => ?_, h6⟩
  obtain ⟨a1, a2, a3, a4⟩ := h5 i hi
  exact ⟨a1, a2, a3, by rw [a4, e i hi]⟩

theorem ModA.pf {hp hp' : HP} {p N j : Nat} {v : AV} (h : ModA hp p N) (e : pf hp 92 7 j v hp') (hj : j = 9 ∨ j = 10) : ModA hp' p N := by
  obtain ⟨h0, h1, h2, h3, h4, h5, h6, h7, h8, h11, h12, h13, h14, h15, h16, h17, h18, h19, h20, h21, h22, h23⟩ := h
  rcases hj with rfl | rfl
  · exact ⟨e.2.2 _ _ (by decide) h0, e.2.2 _ _ (by decide) h1, e.2.2 _ _ (by decide) h2, e.2.2 _ _ (by decide) h3, e.2.2 _ _ (by decide) h4, e.2.2 _ _ (by decide) h5, e.2.2 _ _ (by decide) h6, e.2.2 _ _ (by decide) h7, e.2.2 _ _ (by decide) h8, e.2.2 _ _ (by decide) h11, e.2.2 _ _ (by decide) h12, e.2.2 _ _ (by decide) h13, e.2.2 _ _ (by decide) h14, e.2.2 _ _ (by decide) h15, e.2.2 _ _ (by decide) h16, e.2.2 _ _ (by decide) h17, e.2.2 _ _ (by decide) h18, e.2.2 _ _ (by decide) h19, e.2.2 _ _ (by decide) h20, e.2.2 _ _ (by decide) h21, e.2.2 _ _ (by decide) h22, e.2.2 _ _ (by decide) h23⟩
  · exact ⟨e.2.2 _ _ (by decide) h0, e.2.2 _ _ (by decide) h1, e.2.2 _ _ (by decide) h2, e.2.2 _ _ (by decide) h3, e.2.2 _ _ (by decide) h4, e.2.2 _ _ (by decide) h5, e.2.2 _ _ (by decide) h6, e.2.2 _ _ (by decide) h7, e.2.2 _ _ (by decide) h8, e.2.2 _ _ (by decide) h11, e.2.2 _ _ (by decide) h12, e.2.2 _ _ (by decide) h13, e.2.2 _ _ (by decide) h14, e.2.2 _ _ (by decide) h15, e.2.2 _ _ (by decide) h16, e.2.2 _ _ (by decide) h17, e.2.2 _ _ (by decide) h18, e.2.2 _ _ (by decide) h19, e.2.2 _ _ (by decide) h20, e.2.2 _ _ (by decide) h21, e.2.2 _ _ (by decide) h22, e.2.2 _ _ (by decide) h23⟩

def Fm (hp h : HP) : Prop := ∀ x, x ≠ 92 → (x < 98 ∨ 359 < x) → h x = hp x
theorem Fm.rf {hp : HP} : Fm hp hp := fun _ _ _ => rfl
theorem Fm.tr {h1 h2 h3 : HP} (a : Fm h1 h2) (b : Fm h2 h3) : Fm h1 h3 := fun x e1 e2 => (b x e1 e2).trans (a x e1 e2)
theorem Fm.up {hp h : HP} {a : Nat} {c : AC} (f : Fm hp h) (h1 : 98 ≤ a) (h2 : a ≤ 359) : Fm hp (up h a c) := fun x e1 e2 => (up_n _ _ (by omega)).trans (f x e1 e2)
theorem Fm.pf {hp h h2 : HP} {j : Nat} {v : AV} (f : Fm hp h) (e : pf h 92 7 j v h2) : Fm hp h2 := fun x e1 e2 => (e.1 x e1).trans (f x e1 e2)

set_option maxRecDepth 4000 in
theorem m_begin {G : GL} {d : Nat} {hp : HP} {sz : Nat} {p N : Nat} (C : ModA hp p N) (hz : 615 ≤ sz) (hN : 1 ≤ N ∧ N ≤ 8) {M : Nat → Nat → Int} {ld : Nat → Int} {m w : Nat} (Mo : MoA hp M ld m w) {n : Nat} : Ct G d 0 0 mX7_begin [vr 92, vi n] hp sz (Vd (fun h => ModA h p N ∧ Fm hp h ∧ MoA h M ld 0 n) sz) := by
  show Ex _ _ _ _ _ _ [vr 92, vi n] _ _ _ _
  obtain ⟨C0, C1, C2, C3, C4, C5, C6, C7, C8, C11, C12, C13, C14, C15, C16, C17, C18, C19, C20, C21, C22, C23⟩ := id C
  have hob := C0.ob
  obtain ⟨g, σ, Mo⟩ := Mo
  obtain ⟨O1, O2, O3, O4, O5, O6⟩ := id Mo
  refine x_aload_n (pc := 0) dX7_begin_0 rfl ?_
  refine x_iconst (pc := 1) dX7_begin_1 ?_
  refine x_pfi (pc := 2) dX7_begin_2 pX7_146 hob (by omega) (fun hp2 hf2 => ?_)
  have Ma := Mo.pfm (m' := 0) hf2
  have Ca := C.pf hf2 (Or.inl rfl)
  have hob2 := hf2.2.1.ob
  refine x_aload_n (pc := 5) dX7_begin_5 rfl ?_
  refine x_iload_n (pc := 6) dX7_begin_6 rfl ?_
  refine x_pfi (pc := 7) dX7_begin_7 pX7_149 hob2 (by omega) (fun hp7 hf7 => ?_)
  have Mb := Ma.pfw hf7
  have Cb := Ca.pf hf7 (Or.inr rfl)
  refine x_vret (pc := 10) dX7_begin_10 rfl ⟨rfl, rfl, Cb, (Fm.rf.pf hf2).pf hf7, g, σ, Mb⟩

theorem k_newRow {G : GL} {d : Nat} {sz p N : Nat} (hz : 615 ≤ sz) {ld : Nat → Int} {m w : Nat} (hm : m < 260) (hw : w ≤ 130) {g : Nat → Option Nat} {σ : Nat → Nat} {Q : Option AV → HP → Nat → Prop} : ∀ k, k ≤ w → ∀ (hp : HP) (M : Nat → Nat → Int), ModA hp p N → MoB hp M ld m w g σ → (∀ h M1, ModA h p N → MoB h M1 ld m w g σ → Fm hp h → (∀ x, x ≠ m → M1 x = M x) → (∀ j, k ≤ j → j < w → M1 m j = 0) → (∀ j, (j < k ∨ w ≤ j) → M1 m j = M m j) → Ex G d 0 0 mX7_newRow 30 [vr 92, vr (σ m), vi w] [] h sz Q) → Ex G d 0 0 mX7_newRow 12 [vr 92, vr (σ m), vi k] [] hp sz Q := by
  refine down (fun hp M C Mo hq => ?_) (fun k hk ih hp M C Mo hq => ?_)
  · obtain ⟨O1, O2, O3, O4, O5, O6⟩ := id Mo
    refine x_iload_n (pc := 12) dX7_newRow_12 rfl ?_
    refine x_aload_n (pc := 13) dX7_newRow_13 rfl ?_
    refine x_gf (pc := 14) dX7_newRow_14 fX7_149 (by assumption) (by omega) ?_
    refine x_icmp_ge (pc := 17) (tgt := 30) dX7_newRow_17 (by decide) (by omega) (by omega) (fun c17 => ?_) (fun c17 => ?_)
    · exact hq hp M C Mo Fm.rf (fun x _ => rfl) (fun j h1 h2 => absurd h2 (by omega)) (fun j _ => rfl)
    · exact absurd c17 (by omega)
  · obtain ⟨O1, O2, O3, O4, O5, O6⟩ := id Mo
    obtain ⟨a1, a2, a3, a4⟩ := Mo.lt hm
    refine x_iload_n (pc := 12) dX7_newRow_12 rfl ?_
    refine x_aload_n (pc := 13) dX7_newRow_13 rfl ?_
    refine x_gf (pc := 14) dX7_newRow_14 fX7_149 (by assumption) (by omega) ?_
    refine x_icmp_ge (pc := 17) (tgt := 30) dX7_newRow_17 (by decide) (by omega) (by omega) (fun c17 => ?_) (fun c17 => ?_)
    · exact absurd c17 (by omega)
    · refine x_aload_n (pc := 20) dX7_newRow_20 rfl ?_
      refine x_iload_n (pc := 21) dX7_newRow_21 rfl ?_
      refine x_iconst (pc := 22) dX7_newRow_22 ?_
      refine x_is (pc := 23) dX7_newRow_23 (by assumption) (by omega) rfl (by omega) ?_
      refine x_iinc (pc := 24) dX7_newRow_24 rfl (by decide) rfl ?_
      show Ex _ _ _ _ _ _ [_, _, _] _ _ _ _
      refine x_goto (pc := 27) (tgt := 12) dX7_newRow_27 (by decide) ?_
      exact ih _ _ (C.keep (up_n _ _ (by omega))) (Mo.row (f := up (M m) k 0) hm) (fun h M1 C1 m1 f1 e0 e1 e2 => hq h M1 C1 m1 ((Fm.rf.up (by omega) (by omega)).tr f1) (fun x hx => (e0 x hx).trans (up_n _ _ hx)) (fun j h1 h2 => by
        by_cases e : j = k
        · subst e; rw [e2 j (by omega), up_s, up_s]
        · exact e1 j (by omega) h2) (fun j hj => by rw [e2 j (by omega), up_s, up_n _ _ (by omega)]))

set_option maxRecDepth 4000 in
theorem m_newRow {G : GL} {d : Nat} {hp : HP} {sz : Nat} {p N : Nat} (C : ModA hp p N) (hz : 615 ≤ sz) (hN : 1 ≤ N ∧ N ≤ 8) {M : Nat → Nat → Int} {ld : Nat → Int} {m w : Nat} (Mo : MoA hp M ld m w) (hm : m < 260) (hw : w ≤ 130) : Ct G d 0 0 mX7_newRow [vr 92] hp sz (Vs (fun v h => ModA h p N ∧ Fm hp h ∧ ∃ M1 g1 σ1, v = vr (σ1 m) ∧ MoB h M1 ld (m + 1) w g1 σ1 ∧ (∀ x, x ≠ m → M1 x = M x) ∧ (∀ j, j < w → M1 m j = 0) ∧ (∀ j, w ≤ j → M1 m j = M m j)) sz) := by
  show Ex _ _ _ _ _ _ [vr 92, vu, vu] _ _ _ _
  obtain ⟨C0, C1, C2, C3, C4, C5, C6, C7, C8, C11, C12, C13, C14, C15, C16, C17, C18, C19, C20, C21, C22, C23⟩ := id C
  have hob := C0.ob
  obtain ⟨g, σ, Mo⟩ := Mo
  obtain ⟨O1, O2, O3, O4, O5, O6⟩ := id Mo
  obtain ⟨a1, a2, a3, a4⟩ := Mo.lt hm
  refine x_aload_n (pc := 0) dX7_newRow_0 rfl ?_
  refine x_gf (pc := 1) dX7_newRow_1 fX7_27 (by assumption) (by omega) ?_
  refine x_aload_n (pc := 4) dX7_newRow_4 rfl ?_
  refine x_gf (pc := 5) dX7_newRow_5 fX7_146 (by assumption) (by omega) ?_
  refine x_al (pc := 8) dX7_newRow_8 (by assumption) (by omega) rfl (by omega) (by assumption) ?_
  refine x_astore_n (pc := 9) dX7_newRow_9 (by decide) rfl ?_
  show Ex _ _ _ _ _ _ [_, _, _] _ _ _ _
  refine x_iconst (pc := 10) dX7_newRow_10 ?_
  refine x_istore_n (pc := 11) dX7_newRow_11 (by decide) rfl ?_
  show Ex _ _ _ _ _ _ [_, _, _] _ _ _ _
  refine k_newRow hz hm hw 0 (by omega) hp M C Mo (fun h M1 C1 m1 f1 e0 e1 e2 => ?_)
  have hobh := m1.1.ob
  obtain ⟨P1, P2, P3, P4, P5, P6⟩ := id m1
  refine x_aload_n (pc := 30) dX7_newRow_30 rfl ?_
  refine x_dupr (pc := 31) dX7_newRow_31 ?_
  refine x_gf (pc := 32) dX7_newRow_32 fX7_146 (by assumption) (by omega) ?_
  refine x_iconst (pc := 35) dX7_newRow_35 ?_
  refine x_iadd (pc := 36) dX7_newRow_36 ?_
  refine x_pfi (pc := 37) dX7_newRow_37 pX7_146 hobh (by omega) (fun hp37 hf37 => ?_)
  have Mz := m1.pfm (m' := m + 1) hf37
  have Cz := C1.pf hf37 (Or.inl rfl)
  refine x_aload_n (pc := 40) dX7_newRow_40 rfl ?_
  refine x_aret (pc := 41) dX7_newRow_41 rfl (Or.inr ⟨_, rfl⟩) ⟨_, rfl, rfl, Cz, f1.pf hf37, M1, g, σ, rfl, Mz, e0, fun j hj => e1 j (by omega) hj, fun j hj => e2 j (by omega)⟩

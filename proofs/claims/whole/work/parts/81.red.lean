def inQ (m w : Nat) (M : Nat → Nat → Int) (p : Nat) : Prop := ∀ i j, i < m → j < w → 0 ≤ M i j ∧ M i j < p
theorem MoB.swap {hp : HP} {m w i k : Nat} {M : Nat → Nat → Int} {ld : Nat → Int} {g : Nat → Option Nat} {σ : Nat → Nat} (h : MoB hp M ld m w g σ) (hi : i < 260) (hk : k < 260) : MoB (up (up hp 98 (rr 5 260 (up g i (some (σ k))))) 98 (rr 5 260 (up (up g i (some (σ k))) k (some (σ i))))) (swp M i k) ld m w (up (up g i (some (σ k))) k (some (σ i))) (fun j => if j = k then σ i else if j = i then σ k else σ j) := by
  obtain ⟨h1, h2, h3, h4, h8, h9⟩ := h
  rw [up_up]
  refine ⟨h1.up (by omega), h2.up (by omega), (up_n _ _ (by omega)).trans h3, up_s _ _ _, fun j hj => ?_, fun x y hx hy hxy => ?_⟩
  · obtain ⟨a1, a2, a3, a4⟩ := h8 i hi
    obtain ⟨b1, b2, b3, b4⟩ := h8 k hk
    obtain ⟨c1, c2, c3, c4⟩ := h8 j hj
    by_cases e1 : j = k
    · subst e1
      refine ⟨by simp [up], by simp only [if_true]; omega, by simp only [if_true]; omega, ?_⟩
      simp only [if_true]
      rw [up_n _ _ (by omega), a4]
      by_cases e2 : j = i
      · subst e2
        simp [swp]
      · simp [swp, e2]
    · by_cases e2 : j = i
      · subst e2
        refine ⟨by simp [up, e1], by simp only [if_neg e1, if_true]; omega, by simp only [if_neg e1, if_true]; omega, ?_⟩
        simp only [if_neg e1, if_true]
        rw [up_n _ _ (by omega), b4]
        simp [swp]
      · refine ⟨by simp [up, e1, e2, c1], by simp only [if_neg e1, if_neg e2]; omega, by simp only [if_neg e1, if_neg e2]; omega, ?_⟩
        simp only [if_neg e1, if_neg e2]
        rw [up_n _ _ (by omega), c4]
        simp [swp, e1, e2]
  · have e : ∀ j, (if j = k then σ i else if j = i then σ k else σ j) = σ (if j = k then i else if j = i then k else j) := fun j => by
      by_cases e1 : j = k
      · simp only [if_pos e1]
      · by_cases e2 : j = i
        · simp only [if_neg e1, if_pos e2]
        · simp only [if_neg e1, if_neg e2]
    have hlt : ∀ j, j < 260 → (if j = k then i else if j = i then k else j) < 260 := fun j hj => by
      split
      · exact hi
      · split
        · exact hk
        · exact hj
    have hxy' : σ (if x = k then i else if x = i then k else x) = σ (if y = k then i else if y = i then k else y) := by
      rw [← e, ← e]
      exact hxy
    have h := h9 _ _ (hlt x hx) (hlt y hy) hxy'
    split at h <;> split at h <;> (try split at h) <;> (try split at h) <;> omega
def scq (p w : Nat) (M : Nat → Nat → Int) (k : Nat) (x : Int) : Nat → Nat → Int := fun i j => if i = k ∧ j < w then (M i j * x) % p else M i j
def clq (p w m : Nat) (M : Nat → Nat → Int) (k c : Nat) : Nat → Nat → Int := fun i j => if i < m ∧ i ≠ k ∧ M i c ≠ 0 ∧ j < w then (M i j - M i c * M k j) % p else M i j
def elq (p w m : Nat) (M : Nat → Nat → Int) (r k : Nat) (x : Int) (c : Nat) : Nat → Nat → Int := clq p w m (scq p w (swp M r k) k x) k c

theorem k_red2 {G : GL} {d : Nat} {sz p N : Nat} (hz : 615 ≤ sz) (hN : 1 ≤ N ∧ N ≤ 8) (hP : isP p) {ld : Nat → Int} {m w r c : Nat} (hm : m ≤ 260) (hw : w ≤ 130) (hr : r < m) (hc : c < w) {g : Nat → Option Nat} {σ : Nat → Nat} {Q : Option AV → HP → Nat → Prop} {hp : HP} {M : Nat → Nat → Int} (C : ModA hp p N) (Mo : MoB hp M ld m w g σ) (hM : inQ m w M p) {v4 v5 v6 v7 v8 : AV} : ∀ q, q ≤ m → (∀ q0, q ≤ q0 → q0 ≤ m → (∀ z, q ≤ z → z < q0 → M z c = 0) → (q0 < m → M q0 c ≠ 0) → Ex G (d + 1) 0 0 mX7_reduce 47 [vr 92, vi r, vi c, vi q0, v4, v5, v6, v7, v8] [] hp sz Q) → Ex G (d + 1) 0 0 mX7_reduce 22 [vr 92, vi r, vi c, vi q, v4, v5, v6, v7, v8] [] hp sz Q := by
  obtain ⟨C0, C1, C2, C3, C4, C5, C6, C7, C8, C11, C12, C13, C14, C15, C16, C17, C18, C19, C20, C21, C22, C23⟩ := id C
  have hob := C0.ob
  obtain ⟨O1, O2, O3, O4, O5, O6⟩ := id Mo
  refine down (fun hq => ?_) (fun q hq9 ih hq => ?_)
  · refine x_iload_n (pc := 22) dX7_reduce_22 rfl ?_
    refine x_aload_n (pc := 23) dX7_reduce_23 rfl ?_
    refine x_gf (pc := 24) dX7_reduce_24 fX7_146 (by assumption) (by omega) ?_
    refine x_icmp_ge (pc := 27) (tgt := 47) dX7_reduce_27 (by decide) (by omega) (by omega) (fun c27 => ?_) (fun c27 => ?_)
    · exact hq m (by omega) (Nat.le_refl _) (fun z h1 h2 => absurd h2 (by omega)) (fun h => absurd h (by omega))
    · exact absurd c27 (by omega)
  · obtain ⟨a1, a2, a3, a4⟩ := Mo.lt (i := q) (by omega)
    refine x_iload_n (pc := 22) dX7_reduce_22 rfl ?_
    refine x_aload_n (pc := 23) dX7_reduce_23 rfl ?_
    refine x_gf (pc := 24) dX7_reduce_24 fX7_146 (by assumption) (by omega) ?_
    refine x_icmp_ge (pc := 27) (tgt := 47) dX7_reduce_27 (by decide) (by omega) (by omega) (fun c27 => ?_) (fun c27 => ?_)
    · exact absurd c27 (by omega)
    · refine x_aload_n (pc := 30) dX7_reduce_30 rfl ?_
      refine x_gf (pc := 31) dX7_reduce_31 fX7_27 (by assumption) (by omega) ?_
      refine x_iload_n (pc := 34) dX7_reduce_34 rfl ?_
      refine x_al (pc := 35) dX7_reduce_35 (by assumption) (by omega) rfl (by omega) (by assumption) ?_
      refine x_iload_n (pc := 36) dX7_reduce_36 rfl ?_
      refine x_il (pc := 37) dX7_reduce_37 (by assumption) (by omega) rfl (by omega) ?_
      refine x_if_ne (pc := 38) (tgt := 47) dX7_reduce_38 (by decide) (by have := hM q c (by omega) hc; have := hP.le; omega) (fun c38 => ?_) (fun c38 => ?_)
      · exact hq q (by omega) (by omega) (fun z h1 h2 => absurd h2 (by omega)) (fun _ => c38)
      · refine x_iinc (pc := 41) dX7_reduce_41 rfl (by decide) rfl ?_
        show Ex _ _ _ _ _ _ [_, _, _, _, _, _, _, _, _] _ _ _ _
        refine x_goto (pc := 44) (tgt := 22) dX7_reduce_44 (by decide) ?_
        exact ih (fun q0 h1 h2 h3 h4 => hq q0 (by omega) h2 (fun z h5 h6 => by
          by_cases e : z = q
          · subst e; exact c38
          · exact h3 z (by omega) h6) h4)

theorem k_red3 {G : GL} {d : Nat} {sz p N : Nat} (hz : 615 ≤ sz) (hN : 1 ≤ N ∧ N ≤ 8) (hP : isP p) {ld : Nat → Int} {m w r c : Nat} (hm : m ≤ 260) (hw : w ≤ 130) (hr : r < m) (hc : c < w) {g : Nat → Option Nat} {σ : Nat → Nat} {Q : Option AV → HP → Nat → Prop} {x : Int} (hx : 0 ≤ x ∧ x < p) {v3 v7 v8 : AV} : ∀ k, k ≤ w → ∀ (hp : HP) (M : Nat → Nat → Int), ModA hp p N → MoB hp M ld m w g σ → (∀ j, k ≤ j → j < w → 0 ≤ M r j ∧ M r j < p) → (∀ h M1, ModA h p N → MoB h M1 ld m w g σ → Fm hp h → (∀ z, z ≠ r → M1 z = M z) → (∀ j, k ≤ j → j < w → M1 r j = (M r j * x) % p) → (∀ j, (j < k ∨ w ≤ j) → M1 r j = M r j) → Ex G (d + 1) 0 0 mX7_reduce 132 [vr 92, vi r, vi c, v3, vr (σ r), vi x, vi w, v7, v8] [] h sz Q) → Ex G (d + 1) 0 0 mX7_reduce 99 [vr 92, vi r, vi c, v3, vr (σ r), vi x, vi k, v7, v8] [] hp sz Q := by
  refine down (fun hp M C Mo hM hq => ?_) (fun k hk ih hp M C Mo hM hq => ?_)
  · obtain ⟨O1, O2, O3, O4, O5, O6⟩ := id Mo
    refine x_iload (pc := 99) dX7_reduce_99 rfl ?_
    refine x_aload_n (pc := 101) dX7_reduce_101 rfl ?_
    refine x_gf (pc := 102) dX7_reduce_102 fX7_149 (by assumption) (by omega) ?_
    refine x_icmp_ge (pc := 105) (tgt := 132) dX7_reduce_105 (by decide) (by omega) (by omega) (fun c105 => ?_) (fun c105 => ?_)
    · exact hq hp M C Mo Fm.rf (fun x _ => rfl) (fun j h1 h2 => absurd h2 (by omega)) (fun j _ => rfl)
    · exact absurd c105 (by omega)
  · obtain ⟨C0, C1, C2, C3, C4, C5, C6, C7, C8, C11, C12, C13, C14, C15, C16, C17, C18, C19, C20, C21, C22, C23⟩ := id C
    have hob := C0.ob
    obtain ⟨O1, O2, O3, O4, O5, O6⟩ := id Mo
    have hpl := hP.le
    obtain ⟨a1, a2, a3, a4⟩ := Mo.lt (i := r) (by omega)
    refine x_iload (pc := 99) dX7_reduce_99 rfl ?_
    refine x_aload_n (pc := 101) dX7_reduce_101 rfl ?_
    refine x_gf (pc := 102) dX7_reduce_102 fX7_149 (by assumption) (by omega) ?_
    refine x_icmp_ge (pc := 105) (tgt := 132) dX7_reduce_105 (by decide) (by omega) (by omega) (fun c105 => ?_) (fun c105 => ?_)
    · exact absurd c105 (by omega)
    · refine x_aload (pc := 108) dX7_reduce_108 rfl ?_
      refine x_iload (pc := 110) dX7_reduce_110 rfl ?_
      refine x_aload (pc := 112) dX7_reduce_112 rfl ?_
      refine x_iload (pc := 114) dX7_reduce_114 rfl ?_
      refine x_il (pc := 116) dX7_reduce_116 (by assumption) (by omega) rfl (by omega) ?_
      refine x_iload (pc := 117) dX7_reduce_117 rfl ?_
      refine x_imul (pc := 119) dX7_reduce_119 ?_
      refine x_aload_n (pc := 120) dX7_reduce_120 rfl ?_
      refine x_gf (pc := 121) dX7_reduce_121 fX7_80 (by assumption) (by omega) ?_
      have hm9 := mul13 hpl.2 (hM k (Nat.le_refl _) hk) ⟨hx.1, Int.le_of_lt hx.2⟩
      refine x_irem (pc := 124) dX7_reduce_124 (by omega) (by omega) ?_
      rw [tm hm9.1]
      refine x_is (pc := 125) dX7_reduce_125 (by assumption) (by omega) rfl (by omega) ?_
      refine x_iinc (pc := 126) dX7_reduce_126 rfl (by decide) rfl ?_
      show Ex _ _ _ _ _ _ [_, _, _, _, _, _, _, _, _] _ _ _ _
      refine x_goto (pc := 129) (tgt := 99) dX7_reduce_129 (by decide) ?_
      exact ih _ _ (C.keep (up_n _ _ (by omega))) (Mo.row (i := r) (f := up (M r) k ((M r k * x) % p)) (by omega)) (fun j h1 h2 => by rw [up_s, up_n _ _ (by omega)]; exact hM j (by omega) h2) (fun h M1 C1 m1 f1 e0 e1 e2 => hq h M1 C1 m1 ((Fm.rf.up (by omega) (by omega)).tr f1) (fun z hz9 => (e0 z hz9).trans (up_n _ _ hz9)) (fun j h1 h2 => by
        by_cases e : j = k
        · subst e; rw [e2 j (by omega), up_s, up_s]
        · rw [e1 j (by omega) h2, up_s, up_n _ _ e]) (fun j hj => by rw [e2 j (by omega), up_s, up_n _ _ (by omega)]))

theorem k_red5 {G : GL} {d : Nat} {sz p N : Nat} (hz : 615 ≤ sz) (hN : 1 ≤ N ∧ N ≤ 8) (hP : isP p) {ld : Nat → Int} {m w r c : Nat} (hm : m ≤ 260) (hw : w ≤ 130) (hr : r < m) (hc : c < w) {g : Nat → Option Nat} {σ : Nat → Nat} {Q : Option AV → HP → Nat → Prop} {i : Nat} (hi : i < m) (hir : i ≠ r) {f : Int} (hf : 0 ≤ f ∧ f < p) {v3 v5 : AV} : ∀ k, k ≤ w → ∀ (hp : HP) (M : Nat → Nat → Int), ModA hp p N → MoB hp M ld m w g σ → (∀ j, k ≤ j → j < w → 0 ≤ M i j ∧ M i j < p) → (∀ j, j < w → 0 ≤ M r j ∧ M r j < p) → (∀ h M1, ModA h p N → MoB h M1 ld m w g σ → Fm hp h → (∀ z, z ≠ i → M1 z = M z) → (∀ j, k ≤ j → j < w → M1 i j = (M i j - f * M r j) % p) → (∀ j, (j < k ∨ w ≤ j) → M1 i j = M i j) → Ex G (d + 1) 0 0 mX7_reduce 227 [vr 92, vi r, vi c, v3, vr (σ r), v5, vi i, vi f, vi w] [] h sz Q) → Ex G (d + 1) 0 0 mX7_reduce 179 [vr 92, vi r, vi c, v3, vr (σ r), v5, vi i, vi f, vi k] [] hp sz Q := by
  refine down (fun hp M C Mo hM hMr hq => ?_) (fun k hk ih hp M C Mo hM hMr hq => ?_)
  · obtain ⟨O1, O2, O3, O4, O5, O6⟩ := id Mo
    refine x_iload (pc := 179) dX7_reduce_179 rfl ?_
    refine x_aload_n (pc := 181) dX7_reduce_181 rfl ?_
    refine x_gf (pc := 182) dX7_reduce_182 fX7_149 (by assumption) (by omega) ?_
    refine x_icmp_ge (pc := 185) (tgt := 227) dX7_reduce_185 (by decide) (by omega) (by omega) (fun c185 => ?_) (fun c185 => ?_)
    · exact hq hp M C Mo Fm.rf (fun x _ => rfl) (fun j h1 h2 => absurd h2 (by omega)) (fun j _ => rfl)
    · exact absurd c185 (by omega)
  · obtain ⟨C0, C1, C2, C3, C4, C5, C6, C7, C8, C11, C12, C13, C14, C15, C16, C17, C18, C19, C20, C21, C22, C23⟩ := id C
    have hob := C0.ob
    obtain ⟨O1, O2, O3, O4, O5, O6⟩ := id Mo
    have hpl := hP.le
    obtain ⟨a1, a2, a3, a4⟩ := Mo.lt (i := i) (by omega)
    obtain ⟨b1, b2, b3, b4⟩ := Mo.lt (i := r) (by omega)
    refine x_iload (pc := 179) dX7_reduce_179 rfl ?_
    refine x_aload_n (pc := 181) dX7_reduce_181 rfl ?_
    refine x_gf (pc := 182) dX7_reduce_182 fX7_149 (by assumption) (by omega) ?_
    refine x_icmp_ge (pc := 185) (tgt := 227) dX7_reduce_185 (by decide) (by omega) (by omega) (fun c185 => ?_) (fun c185 => ?_)
    · exact absurd c185 (by omega)
    · refine x_aload_n (pc := 188) dX7_reduce_188 rfl ?_
      refine x_gf (pc := 189) dX7_reduce_189 fX7_27 (by assumption) (by omega) ?_
      refine x_iload (pc := 192) dX7_reduce_192 rfl ?_
      refine x_al (pc := 194) dX7_reduce_194 (by assumption) (by omega) rfl (by omega) (by assumption) ?_
      refine x_iload (pc := 195) dX7_reduce_195 rfl ?_
      refine x_aload_n (pc := 197) dX7_reduce_197 rfl ?_
      refine x_aload_n (pc := 198) dX7_reduce_198 rfl ?_
      refine x_gf (pc := 199) dX7_reduce_199 fX7_27 (by assumption) (by omega) ?_
      refine x_iload (pc := 202) dX7_reduce_202 rfl ?_
      refine x_al (pc := 204) dX7_reduce_204 (by assumption) (by omega) rfl (by omega) (by assumption) ?_
      refine x_iload (pc := 205) dX7_reduce_205 rfl ?_
      refine x_il (pc := 207) dX7_reduce_207 (by assumption) (by omega) rfl (by omega) ?_
      refine x_iload (pc := 208) dX7_reduce_208 rfl ?_
      refine x_aload (pc := 210) dX7_reduce_210 rfl ?_
      refine x_iload (pc := 212) dX7_reduce_212 rfl ?_
      refine x_il (pc := 214) dX7_reduce_214 b4 (by omega) rfl (by omega) ?_
      refine x_imul (pc := 215) dX7_reduce_215 ?_
      refine x_isub (pc := 216) dX7_reduce_216 ?_
      refine x_w1 (pc := 217) dX7_reduce_217 wX7_rest iX7_rest kX7_132 (by decide) rfl (Nat.le_of_ble_eq_true rfl) (by assumption) (by omega) (m_rest C hz hN hP (by have h8 := hM k (Nat.le_refl _) hk; have h9 := mul13 hpl.2 (hMr k hk) ⟨hf.1, Int.le_of_lt hf.2⟩; rw [Int.mul_comm] at h9; omega)) ?_
      refine x_is (pc := 220) dX7_reduce_220 (by assumption) (by omega) rfl (by omega) ?_
      refine x_iinc (pc := 221) dX7_reduce_221 rfl (by decide) rfl ?_
      show Ex _ _ _ _ _ _ [_, _, _, _, _, _, _, _, _] _ _ _ _
      refine x_goto (pc := 224) (tgt := 179) dX7_reduce_224 (by decide) ?_
      exact ih _ _ (C.keep (up_n _ _ (by omega))) (Mo.row (i := i) (f := up (M i) k ((M i k - f * M r k) % p)) (by omega)) (fun j h1 h2 => by rw [up_s, up_n _ _ (by omega)]; exact hM j (by omega) h2) (fun j hj => by rw [up_n _ _ (Ne.symm hir)]; exact hMr j hj) (fun h M1 C1 m1 f1 e0 e1 e2 => hq h M1 C1 m1 ((Fm.rf.up (by omega) (by omega)).tr f1) (fun z hz9 => (e0 z hz9).trans (up_n _ _ hz9)) (fun j h1 h2 => by
        by_cases e : j = k
        · subst e; rw [e2 j (by omega), up_s, up_s]
        · rw [e1 j (by omega) h2, up_s, up_n _ _ e, up_n _ _ (Ne.symm hir)]) (fun j hj => by rw [e2 j (by omega), up_s, up_n _ _ (by omega)]))

theorem k_red4 {G : GL} {d : Nat} {sz p N : Nat} (hz : 615 ≤ sz) (hN : 1 ≤ N ∧ N ≤ 8) (hP : isP p) {ld : Nat → Int} {m w r c : Nat} (hm : m ≤ 260) (hw : w ≤ 130) (hr : r < m) (hc : c < w) {g : Nat → Option Nat} {σ : Nat → Nat} {Q : Option AV → HP → Nat → Prop} {v3 : AV} {x5 : Int} : ∀ i, i ≤ m → ∀ (hp : HP) (M : Nat → Nat → Int) (v7 v8 : AV), ModA hp p N → MoB hp M ld m w g σ → inQ m w M p → (∀ h M1 v7 v8, ModA h p N → MoB h M1 ld m w g σ → Fm hp h → (∀ z j, M1 z j = if i ≤ z ∧ z < m ∧ z ≠ r ∧ M z c ≠ 0 ∧ j < w then (M z j - M z c * M r j) % p else M z j) → Ex G (d + 1) 0 0 mX7_reduce 233 [vr 92, vi r, vi c, v3, vr (σ r), vi x5, vi m, v7, v8] [] h sz Q) → Ex G (d + 1) 0 0 mX7_reduce 135 [vr 92, vi r, vi c, v3, vr (σ r), vi x5, vi i, v7, v8] [] hp sz Q := by
  refine down (fun hp M v7 v8 C Mo hM hq => ?_) (fun i hi ih hp M v7 v8 C Mo hM hq => ?_)
  · obtain ⟨O1, O2, O3, O4, O5, O6⟩ := id Mo
    refine x_iload (pc := 135) dX7_reduce_135 rfl ?_
    refine x_aload_n (pc := 137) dX7_reduce_137 rfl ?_
    refine x_gf (pc := 138) dX7_reduce_138 fX7_146 (by assumption) (by omega) ?_
    refine x_icmp_ge (pc := 141) (tgt := 233) dX7_reduce_141 (by decide) (by omega) (by omega) (fun c141 => ?_) (fun c141 => ?_)
    · exact hq hp M _ _ C Mo Fm.rf (fun z j => by rw [if_neg (by omega)])
    · exact absurd c141 (by omega)
  · obtain ⟨C0, C1, C2, C3, C4, C5, C6, C7, C8, C11, C12, C13, C14, C15, C16, C17, C18, C19, C20, C21, C22, C23⟩ := id C
    have hob := C0.ob
    obtain ⟨O1, O2, O3, O4, O5, O6⟩ := id Mo
    obtain ⟨a1, a2, a3, a4⟩ := Mo.lt (i := i) (by omega)
    refine x_iload (pc := 135) dX7_reduce_135 rfl ?_
    refine x_aload_n (pc := 137) dX7_reduce_137 rfl ?_
    refine x_gf (pc := 138) dX7_reduce_138 fX7_146 (by assumption) (by omega) ?_
    refine x_icmp_ge (pc := 141) (tgt := 233) dX7_reduce_141 (by decide) (by omega) (by omega) (fun c141 => ?_) (fun c141 => ?_)
    · exact absurd c141 (by omega)
    · refine x_iload (pc := 144) dX7_reduce_144 rfl ?_
      refine x_iload_n (pc := 146) dX7_reduce_146 rfl ?_
      refine x_icmp_eq (pc := 147) (tgt := 227) dX7_reduce_147 (by decide) (by omega) (by omega) (fun c147 => ?_) (fun c147 => ?_)
      · refine x_iinc (pc := 227) dX7_reduce_227 rfl (by decide) rfl ?_
        show Ex _ _ _ _ _ _ [_, _, _, _, _, _, _, _, _] _ _ _ _
        refine x_goto (pc := 230) (tgt := 135) dX7_reduce_230 (by decide) ?_
        first
          | exact ih hp M _ _ C Mo hM (fun h M1 v7 v8 C1 m1 f1 e1 => hq h M1 v7 v8 C1 m1 f1 (fun z j => by
              rw [e1 z j]
              by_cases e : z = i
              · subst e
                rw [if_neg (by omega), if_neg (fun q => q.2.2.1 (by omega))]
              · by_cases e2 : i ≤ z
                · simp only [e2, show i + 1 ≤ z by omega]
                · simp only [e2, show ¬ i + 1 ≤ z by omega]))
          | exact ih hp M _ _ C Mo hM (fun h M1 v7 v8 C1 m1 f1 e1 => hq h M1 v7 v8 C1 m1 f1 (fun z j => by
              rw [e1 z j]
              by_cases e : z = i
              · subst e
                rw [if_neg (by omega), if_neg (fun q => q.2.2.2.1 c159)]
              · by_cases e2 : i ≤ z
                · simp only [e2, show i + 1 ≤ z by omega]
                · simp only [e2, show ¬ i + 1 ≤ z by omega]))
      · refine x_aload_n (pc := 150) dX7_reduce_150 rfl ?_
        refine x_gf (pc := 151) dX7_reduce_151 fX7_27 (by assumption) (by omega) ?_
        refine x_iload (pc := 154) dX7_reduce_154 rfl ?_
        refine x_al (pc := 156) dX7_reduce_156 (by assumption) (by omega) rfl (by omega) (by assumption) ?_
        refine x_iload_n (pc := 157) dX7_reduce_157 rfl ?_
        refine x_il (pc := 158) dX7_reduce_158 (by assumption) (by omega) rfl (by omega) ?_
        refine x_if_ne (pc := 159) (tgt := 165) dX7_reduce_159 (by decide) (by have := hM i c hi hc; have := hP.le; omega) (fun c159 => ?_) (fun c159 => ?_)
        · refine x_aload_n (pc := 165) dX7_reduce_165 rfl ?_
          refine x_gf (pc := 166) dX7_reduce_166 fX7_27 (by assumption) (by omega) ?_
          refine x_iload (pc := 169) dX7_reduce_169 rfl ?_
          refine x_al (pc := 171) dX7_reduce_171 (by assumption) (by omega) rfl (by omega) (by assumption) ?_
          refine x_iload_n (pc := 172) dX7_reduce_172 rfl ?_
          refine x_il (pc := 173) dX7_reduce_173 (by assumption) (by omega) rfl (by omega) ?_
          refine x_istore (pc := 174) dX7_reduce_174 (by decide) rfl ?_
          show Ex _ _ _ _ _ _ [_, _, _, _, _, _, _, _, _] _ _ _ _
          refine x_iconst (pc := 176) dX7_reduce_176 ?_
          refine x_istore (pc := 177) dX7_reduce_177 (by decide) rfl ?_
          show Ex _ _ _ _ _ _ [_, _, _, _, _, _, _, _, _] _ _ _ _
          refine k_red5 (d := d) hz hN hP hm hw hr hc hi (by omega) (hM i c hi hc) 0 (by omega) hp M C Mo (fun j _ hj => hM i j hi hj) (fun j hj => hM r j hr hj) (fun h M1 C1 m1 f1 e0 e1 e2 => ?_)
          refine x_iinc (pc := 227) dX7_reduce_227 rfl (by decide) rfl ?_
          show Ex _ _ _ _ _ _ [_, _, _, _, _, _, _, _, _] _ _ _ _
          refine x_goto (pc := 230) (tgt := 135) dX7_reduce_230 (by decide) ?_
          exact ih h M1 _ _ C1 m1 (fun z j hz9 hj => by
            by_cases e : z = i
            · subst e; rw [e1 j (by omega) hj]; exact emod_rg (by have := hP.le; omega)
            · rw [e0 z e]; exact hM z j hz9 hj) (fun h2 M2 v7 v8 C2 m2 f2 e3 => hq h2 M2 v7 v8 C2 m2 (f1.tr f2) (fun z j => by
            rw [e3 z j, e0 r (by omega)]
            by_cases e : z = i
            · subst e
              rw [if_neg (by omega)]
              by_cases e5 : j < w
              · rw [e1 j (by omega) e5, if_pos ⟨by omega, hi, by omega, c159, e5⟩]
              · rw [e2 j (by omega), if_neg (by omega)]
            · rw [e0 z e]
              by_cases e5 : i ≤ z
              · simp only [e5, show i + 1 ≤ z by omega]
              · simp only [e5, show ¬ i + 1 ≤ z by omega]))
        · refine x_goto (pc := 162) (tgt := 227) dX7_reduce_162 (by decide) ?_
          refine x_iinc (pc := 227) dX7_reduce_227 rfl (by decide) rfl ?_
          show Ex _ _ _ _ _ _ [_, _, _, _, _, _, _, _, _] _ _ _ _
          refine x_goto (pc := 230) (tgt := 135) dX7_reduce_230 (by decide) ?_
          first
            | exact ih hp M _ _ C Mo hM (fun h M1 v7 v8 C1 m1 f1 e1 => hq h M1 v7 v8 C1 m1 f1 (fun z j => by
                rw [e1 z j]
                by_cases e : z = i
                · subst e
                  rw [if_neg (by omega), if_neg (fun q => q.2.2.1 (by omega))]
                · by_cases e2 : i ≤ z
                  · simp only [e2, show i + 1 ≤ z by omega]
                  · simp only [e2, show ¬ i + 1 ≤ z by omega]))
            | exact ih hp M _ _ C Mo hM (fun h M1 v7 v8 C1 m1 f1 e1 => hq h M1 v7 v8 C1 m1 f1 (fun z j => by
                rw [e1 z j]
                by_cases e : z = i
                · subst e
                  rw [if_neg (by omega), if_neg (fun q => q.2.2.2.1 c159)]
                · by_cases e2 : i ≤ z
                  · simp only [e2, show i + 1 ≤ z by omega]
                  · simp only [e2, show ¬ i + 1 ≤ z by omega]))

/-! the model's determinant, the steps -/
theorem SqX.two {h h' : HP} {r : Nat → Nat} {g : Nat → Nat → Int} (q : SqX h r g) {p s : Nat} (hp : p < 9) (hs : s < 9) (hps : p ≠ s) {f : Nat → Option Nat} (hf : h' 403 = rr 6 9 (up (up f p (some (404 + r s))) s (some (404 + r p)))) (hff : ∀ k, k < 9 → f k = some (404 + r k)) (hh : ∀ x, x ≠ 403 → h' x = h x) :
    SqX h' (fun k => r (if k = s then p else if k = p then s else k)) (fun k => g (if k = s then p else if k = p then s else k)) := by
  obtain ⟨_, q3, q4, q5⟩ := q
  have t : ∀ k, k < 9 → (if k = s then p else if k = p then s else k) < 9 := fun k hk => by split <;> (try split) <;> omega
  refine ⟨⟨_, hf, fun k hk => ?_⟩, fun k hk => q3 _ (t k hk), fun i k hi hk e => ?_, fun k hk => ?_⟩
  · show _ = some (404 + r (if k = s then p else if k = p then s else k))
    by_cases e1 : k = s
    · subst e1; rw [up_s, if_pos rfl]
    · rw [up_n _ _ e1, if_neg e1]
      by_cases e2 : k = p
      · subst e2; rw [up_s, if_pos rfl]
      · rw [up_n _ _ e2, if_neg e2]; exact hff k hk
  · have := q4 _ _ (t i hi) (t k hk) e
    split at this <;> (try split at this) <;> (try split at this) <;> (try split at this) <;> omega
  · have := q3 _ (t k hk)
    rw [hh _ (by omega)]
    exact q5 _ (t k hk)

theorem lc_eq {x y : Int} (h : lc x y = 0) : x = y := by
  unfold lc at h
  split at h
  · omega
  · split at h <;> omega
theorem lc_rng (x y : Int) : -1 ≤ lc x y ∧ lc x y ≤ 1 := by
  unfold lc
  split
  · omega
  · split <;> omega
theorem lc_r32 (x y : Int) : -2147483648 ≤ lc x y ∧ lc x y < 2147483648 := by
  have := lc_rng x y
  omega
theorem k_dse {G : GL} {d sz p N : Nat} (hz : 615 ≤ sz) {A : Nat → Nat → Int} (hA : ∀ i j, (A i j).natAbs ≤ 2) {M : Nat} (hM : M ≤ 9) {n H : Int} {e : Int} {o r : Nat → Nat} {g : Nat → Nat → Int} {s : Nat} {hp : HP} (C : ModA hp p N) (sq : SqX hp r g) {l10 l11 : AV} {Q : Option AV → HP → Nat → Prop} (hb : ∀ a, s ≤ a → a < M → (g a s).natAbs ≤ 185794560)
    (hnone : (∀ a, s ≤ a → a < M → g a s = 0) → Q (some (vl 0)) hp sz)
    (hfound : ∀ k, s ≤ k → k < M → g k s ≠ 0 → Ex G d 0 0 mX7_determinant 142 [vr 92, vi n, vi H, vi M, vl (det s (pr A o)), vu, vl e, vu, vi s, vi k, l10, l11] [] hp sz Q) :
    ∀ k, k ≤ M → s ≤ k → (∀ a, s ≤ a → a < k → g a s = 0) → Ex G d 0 0 mX7_determinant 107 [vr 92, vi n, vi H, vi M, vl (det s (pr A o)), vu, vl e, vu, vi s, vi k, l10, l11] [] hp sz Q := by
  refine down (fun hsk hz0 => ?_) (fun k hk ih hsk hz0 => ?_)
  · obtain ⟨C0, C1, C2, C3, C4, C5, C6, C7, C8, C11, C12, C13, C14, C15, C16, C17, C18, C19, C20, C21, C22, C23⟩ := id C
    have hob := C0.ob
    refine x_iload (pc := 107) dX7_determinant_107 rfl ?_
    refine x_iload_n (pc := 109) dX7_determinant_109 rfl ?_
    refine x_icmp_ge (pc := 110) (tgt := 134) dX7_determinant_110 (by decide) (by omega) (by omega) (fun c110 => ?_) (fun c110 => ?_)
    · refine x_iload (pc := 134) dX7_determinant_134 rfl ?_
      refine x_iload_n (pc := 136) dX7_determinant_136 rfl ?_
      refine x_icmp_ne (pc := 137) (tgt := 142) dX7_determinant_137 (by decide) (by omega) (by omega) (fun c137 => ?_) (fun c137 => ?_)
      · exact absurd c137 (by omega)
      · refine x_lconst (pc := 140) dX7_determinant_140 ?_
        refine x_lret (pc := 141) dX7_determinant_141 rfl (hnone (fun a h1 h2 => hz0 a h1 h2))
    · exact absurd c110 (by omega)
  · obtain ⟨C0, C1, C2, C3, C4, C5, C6, C7, C8, C11, C12, C13, C14, C15, C16, C17, C18, C19, C20, C21, C22, C23⟩ := id C
    have hob := C0.ob
    obtain ⟨⟨f, q1, q2⟩, q3, q4, q5⟩ := id sq
    refine x_iload (pc := 107) dX7_determinant_107 rfl ?_
    refine x_iload_n (pc := 109) dX7_determinant_109 rfl ?_
    refine x_icmp_ge (pc := 110) (tgt := 134) dX7_determinant_110 (by decide) (by omega) (by omega) (fun c110 => ?_) (fun c110 => ?_)
    · exact absurd c110 (by omega)
    · refine x_aload_n (pc := 113) dX7_determinant_113 rfl ?_
      refine x_gf (pc := 114) dX7_determinant_114 fX7_66 (by assumption) (by omega) ?_
      refine x_iload (pc := 117) dX7_determinant_117 rfl ?_
      refine x_al (pc := 119) dX7_determinant_119 (by assumption) (by omega) rfl (by omega) (q2 k (by omega)) ?_
      refine x_iload (pc := 120) dX7_determinant_120 rfl ?_
      refine x_ll (pc := 122) dX7_determinant_122 (q5 k (by omega)) (by have := q3 k (by omega); omega) rfl (by omega) ?_
      refine x_lconst (pc := 123) dX7_determinant_123 ?_
      refine x_lcmp (pc := 124) dX7_determinant_124 (by have := hb k hsk hk; omega) (by omega) ?_
      refine x_if_ne (pc := 125) (tgt := 134) dX7_determinant_125 (by decide) (lc_r32 _ _) (fun c125 => ?_) (fun c125 => ?_)
      · have g0 : g k s ≠ 0 := fun z => c125 (by rw [z]; rfl)
        refine x_iload (pc := 134) dX7_determinant_134 rfl ?_
        refine x_iload_n (pc := 136) dX7_determinant_136 rfl ?_
        refine x_icmp_ne (pc := 137) (tgt := 142) dX7_determinant_137 (by decide) (by omega) (by omega) (fun c137 => ?_) (fun c137 => ?_)
        · exact hfound k hsk hk g0
        · exact absurd c137 (by omega)
      · have g0 : g k s = 0 := lc_eq c125
        refine x_iinc (pc := 128) dX7_determinant_128 rfl (by decide) rfl ?_
        show Ex _ _ _ _ _ _ [_, _, _, _, _, _, _, _, _, _, _, _] _ _ _ _
        refine x_goto (pc := 131) (tgt := 107) dX7_determinant_131 (by decide) ?_
        exact ih (by omega) (fun a h1 h2 => by
          by_cases e : a = k
          · subst e; exact g0
          · exact hz0 a h1 (by omega))

theorem k_dsw {G : GL} {d sz p N : Nat} (hz : 615 ≤ sz) {A : Nat → Nat → Int} (hA : ∀ i j, (A i j).natAbs ≤ 2) {M : Nat} (hM : M ≤ 9) {n H : Int} {e : Int} {o r : Nat → Nat} {g : Nat → Nat → Int} {s pp : Nat} (hsp : s ≤ pp) (hpp : pp < M) {hp : HP} (C : ModA hp p N) (sq : SqX hp r g) {l10 l11 : AV} {Q : Option AV → HP → Nat → Prop}
    (hq : ∀ h' r' g' (l10 : AV) e', ModA h' p N → SqX h' r' g' → Fr hp h' 403 412 → (∀ a b, g' a b = g (if a = s then pp else if a = pp then s else a) b) → e' = (if pp = s then e else -e) → Ex G d 0 0 mX7_determinant 186 [vr 92, vi n, vi H, vi M, vl (det s (pr A o)), vu, vl e', vu, vi s, vi pp, l10, l11] [] h' sz Q) :
    Ex G d 0 0 mX7_determinant 142 [vr 92, vi n, vi H, vi M, vl (det s (pr A o)), vu, vl e, vu, vi s, vi pp, l10, l11] [] hp sz Q := by
  obtain ⟨C0, C1, C2, C3, C4, C5, C6, C7, C8, C11, C12, C13, C14, C15, C16, C17, C18, C19, C20, C21, C22, C23⟩ := id C
  have hob := C0.ob
  obtain ⟨⟨f, q1, q2⟩, q3, q4, q5⟩ := id sq
  refine x_iload (pc := 142) dX7_determinant_142 rfl ?_
  refine x_iload (pc := 144) dX7_determinant_144 rfl ?_
  refine x_icmp_eq (pc := 146) (tgt := 186) dX7_determinant_146 (by decide) (by omega) (by omega) (fun c146 => ?_) (fun c146 => ?_)
  · have e : pp = s := by omega
    subst e
    first
      | exact hq _ _ _ _ _ C sq Fr.rf (fun a b => by rw [show (if a = pp then pp else if a = pp then pp else a) = a from by split <;> (try split) <;> omega]) (if_pos rfl).symm
      | exact hq _ _ _ _ _ (Cb.keep (up_n _ _ (by omega))) (sq.two (by omega) (by omega) hps (up_s _ _ _) q2 (fun x hx => (up_n _ _ hx).trans (up_n _ _ hx))) ((Fr.rf.up (by omega) (by omega)).up (by omega) (by omega)) (fun a b => rfl) (if_neg hps).symm
  · have hps : pp ≠ s := by omega
    refine x_aload_n (pc := 149) dX7_determinant_149 rfl ?_
    refine x_gf (pc := 150) dX7_determinant_150 fX7_66 (by assumption) (by omega) ?_
    refine x_iload (pc := 153) dX7_determinant_153 rfl ?_
    refine x_al (pc := 155) dX7_determinant_155 (by assumption) (by omega) rfl (by omega) (q2 pp (by omega)) ?_
    refine x_astore (pc := 156) dX7_determinant_156 (by decide) rfl ?_
    show Ex _ _ _ _ _ _ [_, _, _, _, _, _, _, _, _, _, _, _] _ _ _ _
    refine x_aload_n (pc := 158) dX7_determinant_158 rfl ?_
    refine x_gf (pc := 159) dX7_determinant_159 fX7_66 (by assumption) (by omega) ?_
    refine x_iload (pc := 162) dX7_determinant_162 rfl ?_
    refine x_aload_n (pc := 164) dX7_determinant_164 rfl ?_
    refine x_gf (pc := 165) dX7_determinant_165 fX7_66 (by assumption) (by omega) ?_
    refine x_iload (pc := 168) dX7_determinant_168 rfl ?_
    refine x_al (pc := 170) dX7_determinant_170 (by assumption) (by omega) rfl (by omega) (q2 s (by omega)) ?_
    refine x_as (pc := 171) dX7_determinant_171 (by assumption) (by omega) rfl (by omega) (by have := q3 s (by omega); omega) (by rw [q5 s (by omega)]; rfl) ?_
    have Cb := C.keep (hp' := up hp 403 (rr 6 9 (up f pp (some (404 + r s))))) (up_n _ _ (by omega))
    obtain ⟨C0, C1, C2, C3, C4, C5, C6, C7, C8, C11, C12, C13, C14, C15, C16, C17, C18, C19, C20, C21, C22, C23⟩ := id Cb
    have hob := C0.ob
    refine x_aload_n (pc := 172) dX7_determinant_172 rfl ?_
    refine x_gf (pc := 173) dX7_determinant_173 fX7_66 (by assumption) (by omega) ?_
    refine x_iload (pc := 176) dX7_determinant_176 rfl ?_
    refine x_aload (pc := 178) dX7_determinant_178 rfl ?_
    refine x_as (pc := 180) dX7_determinant_180 (up_s _ _ _) (by omega) rfl (by omega) (by have := q3 pp (by omega); omega) (by have := q3 pp (by omega); rw [up_n _ _ (by omega), q5 pp (by omega)]; rfl) ?_
    refine x_lload (pc := 181) dX7_determinant_181 rfl ?_
    refine x_lneg (pc := 183) dX7_determinant_183 ?_
    refine x_lstore (pc := 184) dX7_determinant_184 (by decide) rfl ?_
    show Ex _ _ _ _ _ _ [_, _, _, _, _, _, _, _, _, _, _, _] _ _ _ _
    first
      | exact hq _ _ _ _ _ C sq Fr.rf (fun a b => by rw [show (if a = pp then pp else if a = pp then pp else a) = a from by split <;> (try split) <;> omega]) (if_pos rfl).symm
      | exact hq _ _ _ _ _ (Cb.keep (up_n _ _ (by omega))) (sq.two (by omega) (by omega) hps (up_s _ _ _) q2 (fun x hx => (up_n _ _ hx).trans (up_n _ _ hx))) ((Fr.rf.up (by omega) (by omega)).up (by omega) (by omega)) (fun a b => rfl) (if_neg hps).symm

theorem k_ds {G : GL} {d sz p N : Nat} (hz : 615 ≤ sz) {A : Nat → Nat → Int} (hA : ∀ i j, (A i j).natAbs ≤ 2) {M : Nat} (hM : M ≤ 9) (hM1 : 1 ≤ M) (hsym : ∀ i j, i < M → j < M → A i j = A j i) {n H : Int} {hp0 : HP} {Q : Option AV → HP → Nat → Prop}
    (hq : ∀ hp r g, ModA hp p N → SqX hp r g → Fr hp0 hp 403 412 → Q (some (vl (det M A))) hp sz) :
    ∀ s, s ≤ M - 1 → ∀ hp r g o e l9 l10 l11, ModA hp p N → SqX hp r g → Fr hp0 hp 403 412 → (∀ t, t ≤ s → det t (pr A o) ≠ 0) → (∀ i, i < M → ∃ k, k < M ∧ o k = i) → det M (pr A o) = e * det M A → (e = 1 ∨ e = -1) → (∀ a b, s ≤ a → a < M → s ≤ b → b < M → g a b = mn (pr A o) s a b) →  Ex G d 0 0 mX7_determinant 95 [vr 92, vi n, vi H, vi M, vl (det s (pr A o)), vu, vl e, vu, vi s, l9, l10, l11] [] hp sz Q := by
  refine down (fun hp r g o e l9 l10 l11 C sq ff hd hsur hde he hg => ?_) (fun s hs ih hp r g o e l9 l10 l11 C sq ff hd hsur hde he hg => ?_)
  · obtain ⟨C0, C1, C2, C3, C4, C5, C6, C7, C8, C11, C12, C13, C14, C15, C16, C17, C18, C19, C20, C21, C22, C23⟩ := id C
    have hob := C0.ob
    obtain ⟨⟨f, q1, q2⟩, q3, q4, q5⟩ := id sq
    refine x_iload (pc := 95) dX7_determinant_95 rfl ?_
    refine x_iload_n (pc := 97) dX7_determinant_97 rfl ?_
    refine x_iconst (pc := 98) dX7_determinant_98 ?_
    refine x_isub (pc := 99) dX7_determinant_99 ?_
    refine x_icmp_ge (pc := 100) (tgt := 296) dX7_determinant_100 (by decide) (by omega) (by omega) (fun c100 => ?_) (fun c100 => ?_)
    · refine x_iload_n (pc := 296) dX7_determinant_296 rfl ?_
      refine x_if_ne (pc := 297) (tgt := 304) dX7_determinant_297 (by decide) (by omega) (fun c297 => ?_) (fun c297 => ?_)
      · refine x_lload (pc := 304) dX7_determinant_304 rfl ?_
        refine x_aload_n (pc := 306) dX7_determinant_306 rfl ?_
        refine x_gf (pc := 307) dX7_determinant_307 fX7_66 (by assumption) (by omega) ?_
        refine x_iload_n (pc := 310) dX7_determinant_310 rfl ?_
        refine x_iconst (pc := 311) dX7_determinant_311 ?_
        refine x_isub (pc := 312) dX7_determinant_312 ?_
        refine x_al (pc := 313) (j := M - 1) dX7_determinant_313 (by assumption) (by omega) (by omega) (by omega) (q2 (M - 1) (by omega)) ?_
        refine x_iload_n (pc := 314) dX7_determinant_314 rfl ?_
        refine x_iconst (pc := 315) dX7_determinant_315 ?_
        refine x_isub (pc := 316) dX7_determinant_316 ?_
        refine x_ll (pc := 317) (j := M - 1) dX7_determinant_317 (q5 (M - 1) (by omega)) (by have := q3 (M - 1) (by omega); omega) (by omega) (by omega) ?_
        refine x_lmul (pc := 318) dX7_determinant_318 ?_
        refine x_lret (pc := 319) dX7_determinant_319 rfl (by
          have e1 : g (M - 1) (M - 1) = det M (pr A o) := by
            rw [hg (M - 1) (M - 1) (by omega) (by omega) (by omega) (by omega), mn_d, show M - 1 + 1 = M by omega]
          have e2 : e * g (M - 1) (M - 1) = det M A := by
            rw [e1, hde]
            rcases he with q | q <;> rw [q] <;> omega
          rw [e2]
          exact hq _ _ _ C sq ff)
      · exact absurd c297 (by omega)
    · exact absurd c100 (by omega)
  · obtain ⟨C0, C1, C2, C3, C4, C5, C6, C7, C8, C11, C12, C13, C14, C15, C16, C17, C18, C19, C20, C21, C22, C23⟩ := id C
    have hob := C0.ob
    refine x_iload (pc := 95) dX7_determinant_95 rfl ?_
    refine x_iload_n (pc := 97) dX7_determinant_97 rfl ?_
    refine x_iconst (pc := 98) dX7_determinant_98 ?_
    refine x_isub (pc := 99) dX7_determinant_99 ?_
    refine x_icmp_ge (pc := 100) (tgt := 296) dX7_determinant_100 (by decide) (by omega) (by omega) (fun c100 => ?_) (fun c100 => ?_)
    · exact absurd c100 (by omega)
    · refine x_iload (pc := 103) dX7_determinant_103 rfl ?_
      refine x_istore (pc := 105) dX7_determinant_105 (by decide) rfl ?_
      show Ex _ _ _ _ _ _ [_, _, _, _, _, _, _, _, _, _, _, _] _ _ _ _
      refine k_dse hz hA hM C sq (o := o) (fun a h1 h2 => by rw [hg a s h1 h2 (Nat.le_refl _) (by omega)]; exact pr_abs hA o s a s (by omega)) (fun hno => ?_) (fun pp hsp hpp hne => ?_) s (by omega) (Nat.le_refl _) (fun a h1 h2 => by omega)
      · have z := det_dead A M s o (by omega) hsym (hd s (Nat.le_refl _)) hsur (fun i h1 h2 => by rw [← hg i s h1 h2 (Nat.le_refl _) (by omega)]; exact hno i h1 h2)
        have := hq _ _ _ C sq ff
        rw [z] at this
        exact this
      · have hd2 : ∀ t, t ≤ s + 1 → det t (pr A (ow o pp s)) ≠ 0 := fun t ht => by
          by_cases e1 : t = s + 1
          · rw [e1, ← mn_d, ow_mn A o hsp, if_pos rfl, ← hg pp s hsp hpp (Nat.le_refl _) (by omega)]
            exact hne
          · rw [ow_low A o hsp (by omega)]
            exact hd t (by omega)
        refine k_dsw hz hA hM hsp hpp C sq (fun hp2 r2 g2 l10 e2 Cx2 sq2 ff2 hg2 he9 => ?_)
        have hde2 : det M (pr A (ow o pp s)) = e2 * det M A := by
          by_cases e1 : pp = s
          · rw [he9, if_pos e1, ← hde]
            congr 1
            funext i j
            show A (ow o pp s i) j = A (o i) j
            unfold ow
            rw [e1]
            split
            · rename_i z; rw [z]
            · rfl
          · rw [ow_det A o hpp (by omega) e1, hde, he9, if_neg e1, Int.neg_mul]
        have he2 : e2 = 1 ∨ e2 = -1 := by rw [he9]; split <;> omega
        refine x_iload (pc := 186) dX7_determinant_186 rfl ?_
        refine x_iconst (pc := 188) dX7_determinant_188 ?_
        refine x_iadd (pc := 189) dX7_determinant_189 ?_
        refine x_istore (pc := 190) dX7_determinant_190 (by decide) rfl ?_
        show Ex _ _ _ _ _ _ [_, _, _, _, _, _, _, _, _, _, _, _] _ _ _ _
        rw [← ow_low A o hsp (Nat.le_refl s)]
        refine k_di hz hA hM hd2 (hp0 := hp0) (fun hp3 g3 l11 Cx3 sq3 ff3 J3 => ?_) (s + 1) (by omega) (by omega) _ _ _ Cx2 sq2 (Fr.tr ff ff2) (fun a b h1 h2 h3 h4 => by
          rw [if_neg (by omega), hg2 a b, hg _ b (by split <;> (try split) <;> omega) (by split <;> (try split) <;> omega) h3 h4, ow_mn A o hsp])
        obtain ⟨C0, C1, C2, C3, C4, C5, C6, C7, C8, C11, C12, C13, C14, C15, C16, C17, C18, C19, C20, C21, C22, C23⟩ := id Cx3
        have hob := C0.ob
        obtain ⟨⟨f, q1, q2⟩, q3, q4, q5⟩ := id sq3
        refine x_aload_n (pc := 278) dX7_determinant_278 rfl ?_
        refine x_gf (pc := 279) dX7_determinant_279 fX7_66 (by assumption) (by omega) ?_
        refine x_iload (pc := 282) dX7_determinant_282 rfl ?_
        refine x_al (pc := 284) dX7_determinant_284 (by assumption) (by omega) rfl (by omega) (q2 s (by omega)) ?_
        refine x_iload (pc := 285) dX7_determinant_285 rfl ?_
        refine x_ll (pc := 287) dX7_determinant_287 (q5 s (by omega)) (by have := q3 s (by omega); omega) rfl (by omega) ?_
        rw [show g3 s s = det (s + 1) (pr A (ow o pp s)) from by rw [J3 s s (by omega) (by omega) (by omega) (by omega), if_neg (by omega), mn_d]]
        refine x_lstore (pc := 288) dX7_determinant_288 (by decide) rfl ?_
        show Ex _ _ _ _ _ _ [_, _, _, _, _, _, _, _, _, _, _, _] _ _ _ _
        refine x_iinc (pc := 290) dX7_determinant_290 rfl (by decide) rfl ?_
        show Ex _ _ _ _ _ _ [_, _, _, _, _, _, _, _, _, _, _, _] _ _ _ _
        refine x_goto (pc := 293) (tgt := 95) dX7_determinant_293 (by decide) ?_
        exact ih _ _ _ (ow o pp s) e2 _ _ _ Cx3 sq3 ff3 hd2 (ow_sur o (by omega) (by omega) hsur) hde2 he2 (fun a b h1 h2 h3 h4 => by
          rw [J3 a b (by omega) h2 (by omega) h4, if_pos ⟨by omega, by omega, by omega⟩])

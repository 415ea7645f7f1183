/-! the model's determinant -/
theorem k_dfo {G : GL} {d sz p N : Nat} (hz : 615 ≤ sz) {pa : Nat → Int} {P : Nat → Nat} {n : Nat} (hn : 1 ≤ n ∧ n ≤ 9) (hpn : ∀ j, 1 ≤ j → j < n → pa j = (P j : Int) ∧ P j < j) {H : Nat} (hH : H < 512) {r : Nat → Nat} {l7 l8 l9 l10 l11 : AV} {hp0 : HP} {Q : Option AV → HP → Nat → Prop}
    (hq : ∀ hp g l5 l6, ModA hp p N → hp 413 = ar 0 9 pa → SqX hp r g → Fr hp0 hp 403 412 → (∀ a b, a < cb (bt H) n → b < cb (bt H) n → g a b = TW P (eb (bt H) n a) (eb (bt H) n b)) → Ex G (d + 1) 0 0 mX7_determinant 86 [vr 92, vi n, vi H, vi (cb (bt H) n : Nat), vi n, l5, l6, l7, l8, l9, l10, l11] [] hp sz Q) :
    ∀ i, i ≤ n → ∀ hp g l5 l6, ModA hp p N → hp 413 = ar 0 9 pa → SqX hp r g → Fr hp0 hp 403 412 → (∀ a b, a < cb (bt H) i → b < cb (bt H) n → g a b = TW P (eb (bt H) n a) (eb (bt H) n b)) → Ex G (d + 1) 0 0 mX7_determinant 5 [vr 92, vi n, vi H, vi (cb (bt H) i : Nat), vi i, l5, l6, l7, l8, l9, l10, l11] [] hp sz Q := by
  refine down (fun hp g l5 l6 C ua sq ff hg => ?_) (fun i hi ih hp g l5 l6 C ua sq ff hg => ?_)
  · obtain ⟨C0, C1, C2, C3, C4, C5, C6, C7, C8, C11, C12, C13, C14, C15, C16, C17, C18, C19, C20, C21, C22, C23⟩ := id C
    have hob := C0.ob
    refine x_iload (pc := 5) dX7_determinant_5 rfl ?_
    refine x_iload_n (pc := 7) dX7_determinant_7 rfl ?_
    refine x_icmp_ge (pc := 8) (tgt := 86) dX7_determinant_8 (by decide) (by omega) (by omega) (fun c8 => ?_) (fun c8 => ?_)
    · exact hq hp g l5 l6 C ua sq ff hg
    · exact absurd c8 (by omega)
  · obtain ⟨C0, C1, C2, C3, C4, C5, C6, C7, C8, C11, C12, C13, C14, C15, C16, C17, C18, C19, C20, C21, C22, C23⟩ := id C
    have hob := C0.ob
    have hc := cb_le (bt H) i
    refine x_iload (pc := 5) dX7_determinant_5 rfl ?_
    refine x_iload_n (pc := 7) dX7_determinant_7 rfl ?_
    refine x_icmp_ge (pc := 8) (tgt := 86) dX7_determinant_8 (by decide) (by omega) (by omega) (fun c8 => ?_) (fun c8 => ?_)
    · exact absurd c8 (by omega)
    · refine x_iload_n (pc := 11) dX7_determinant_11 rfl ?_
      refine x_iload (pc := 12) dX7_determinant_12 rfl ?_
      refine x_ishr (pc := 14) dX7_determinant_14 (by omega) (by omega) ?_
      refine x_iconst (pc := 15) dX7_determinant_15 ?_
      refine x_iand 1 (pc := 16) dX7_determinant_16 (by decide) (by decide +kernel) ?_
      rw [bt_i]
      refine x_if_ne (pc := 17) (tgt := 23) dX7_determinant_17 (by decide) (by split <;> omega) (fun c17 => ?_) (fun c17 => ?_)
      · have hb : bt H i = true := by cases e : bt H i <;> simp_all
        refine x_iconst (pc := 23) dX7_determinant_23 ?_
        refine x_istore (pc := 24) dX7_determinant_24 (by decide) rfl ?_
        show Ex _ _ _ _ _ _ [_, _, _, _, _, _, _, _, _, _, _, _] _ _ _ _
        refine x_iconst (pc := 26) dX7_determinant_26 ?_
        refine x_istore (pc := 27) dX7_determinant_27 (by decide) rfl ?_
        show Ex _ _ _ _ _ _ [_, _, _, _, _, _, _, _, _, _, _, _] _ _ _ _
        refine k_dfi (p := p) (N := N) hz hn hpn hH (m := cb (bt H) i) (i := i) (by omega) hi (g0 := g) (hp0 := hp0) (fun hp g2 Cx2 ua2 sq2 ff2 hg1 hg2 => ?_) 0 (by omega) hp g C ua sq ff (fun _ _ _ => rfl) (fun b hb2 => absurd hb2 (Nat.not_lt_zero _))
        refine x_iinc (pc := 77) dX7_determinant_77 rfl (by decide) rfl ?_
        show Ex _ _ _ _ _ _ [_, _, _, _, _, _, _, _, _, _, _, _] _ _ _ _
        rw [show ((cb (bt H) i : Nat) : Int) + 1 = (cb (bt H) (i + 1) : Nat) from by rw [cb_t hb]; omega]
        refine x_iinc (pc := 80) dX7_determinant_80 rfl (by decide) rfl ?_
        show Ex _ _ _ _ _ _ [_, _, _, _, _, _, _, _, _, _, _, _] _ _ _ _
        refine x_goto (pc := 83) (tgt := 5) dX7_determinant_83 (by decide) ?_
        exact ih _ _ _ _ Cx2 ua2 sq2 ff2 (fun a b ha hb2 => by
          rw [cb_t hb] at ha
          by_cases e : a = cb (bt H) i
          · subst e; rw [hg2 b hb2, eb_at (bt H) n i hi hb]
          · rw [hg1 a (by omega)]; exact hg a b (by omega) hb2)
      · have hb : bt H i = false := by cases e : bt H i <;> simp_all
        refine x_goto (pc := 20) (tgt := 80) dX7_determinant_20 (by decide) ?_
        refine x_iinc (pc := 80) dX7_determinant_80 rfl (by decide) rfl ?_
        show Ex _ _ _ _ _ _ [_, _, _, _, _, _, _, _, _, _, _, _] _ _ _ _
        refine x_goto (pc := 83) (tgt := 5) dX7_determinant_83 (by decide) ?_
        rw [show cb (bt H) i = cb (bt H) (i + 1) from (cb_f hb).symm]
        exact ih _ _ _ _ C ua sq ff (fun a b ha => hg a b (by rw [cb_f hb] at ha; exact ha))

def JB (B : Nat → Nat → Int) (M s i k : Nat) (g : Nat → Nat → Int) : Prop := ∀ a b, s ≤ a → a < M → s ≤ b → b < M → g a b = if s < a ∧ s < b ∧ (a < i ∨ (a = i ∧ b < k)) then mn B (s + 1) a b else mn B s a b
theorem mb {x y u v : Int} (hx : x.natAbs ≤ 185794560) (hy : y.natAbs ≤ 185794560) (hu : u.natAbs ≤ 185794560) (hv : v.natAbs ≤ 185794560) : -9223372036854775808 < x * y - u * v ∧ x * y - u * v < 9223372036854775808 := by
  have a := Nat.mul_le_mul hx hy
  have b := Nat.mul_le_mul hu hv
  rw [← Int.natAbs_mul] at a b
  omega

theorem k_dk {G : GL} {d sz p N : Nat} (hz : 615 ≤ sz) {A : Nat → Nat → Int} (hA : ∀ i j, (A i j).natAbs ≤ 2) {M : Nat} (hM : M ≤ 9) {n H : Int} {e : Int} {o r : Nat → Nat} {s i : Nat} (hsi : s < i) (hiM : i < M) (hd : ∀ t, t ≤ s + 1 → det t (pr A o) ≠ 0) {l9 : Int} {hp0 : HP} {Q : Option AV → HP → Nat → Prop}
    (hq : ∀ hp g, ModA hp p N → SqX hp r g → Fr hp0 hp 403 412 → JB (pr A o) M s i M g → Ex G d 0 0 mX7_determinant 272 [vr 92, vi n, vi H, vi M, vl (det s (pr A o)), vu, vl e, vu, vi s, vi l9, vi i, vi M] [] hp sz Q) :
    ∀ k, k ≤ M → s < k → ∀ hp g, ModA hp p N → SqX hp r g → Fr hp0 hp 403 412 → JB (pr A o) M s i k g → Ex G d 0 0 mX7_determinant 204 [vr 92, vi n, vi H, vi M, vl (det s (pr A o)), vu, vl e, vu, vi s, vi l9, vi i, vi k] [] hp sz Q := by
  refine down (fun hsk hp g C sq ff J => ?_) (fun k hk ih hsk hp g C sq ff J => ?_)
  · obtain ⟨C0, C1, C2, C3, C4, C5, C6, C7, C8, C11, C12, C13, C14, C15, C16, C17, C18, C19, C20, C21, C22, C23⟩ := id C
    have hob := C0.ob
    refine x_iload (pc := 204) dX7_determinant_204 rfl ?_
    refine x_iload_n (pc := 206) dX7_determinant_206 rfl ?_
    refine x_icmp_ge (pc := 207) (tgt := 272) dX7_determinant_207 (by decide) (by omega) (by omega) (fun c207 => ?_) (fun c207 => ?_)
    · exact hq hp g C sq ff J
    · exact absurd c207 (by omega)
  · obtain ⟨C0, C1, C2, C3, C4, C5, C6, C7, C8, C11, C12, C13, C14, C15, C16, C17, C18, C19, C20, C21, C22, C23⟩ := id C
    have hob := C0.ob
    obtain ⟨⟨f, q1, q2⟩, q3, q4, q5⟩ := id sq
    have j1 : g i k = mn (pr A o) s i k := by rw [J i k (by omega) (by omega) (by omega) (by omega), if_neg (by omega)]
    have j2 : g s s = mn (pr A o) s s s := by rw [J s s (by omega) (by omega) (by omega) (by omega), if_neg (by omega)]
    have j3 : g i s = mn (pr A o) s i s := by rw [J i s (by omega) (by omega) (by omega) (by omega), if_neg (by omega)]
    have j4 : g s k = mn (pr A o) s s k := by rw [J s k (by omega) (by omega) (by omega) (by omega), if_neg (by omega)]
    refine x_iload (pc := 204) dX7_determinant_204 rfl ?_
    refine x_iload_n (pc := 206) dX7_determinant_206 rfl ?_
    refine x_icmp_ge (pc := 207) (tgt := 272) dX7_determinant_207 (by decide) (by omega) (by omega) (fun c207 => ?_) (fun c207 => ?_)
    · exact absurd c207 (by omega)
    · refine x_aload_n (pc := 210) dX7_determinant_210 rfl ?_
      refine x_gf (pc := 211) dX7_determinant_211 fX7_66 (by assumption) (by omega) ?_
      refine x_iload (pc := 214) dX7_determinant_214 rfl ?_
      refine x_al (pc := 216) dX7_determinant_216 (by assumption) (by omega) rfl (by omega) (q2 i (by omega)) ?_
      refine x_iload (pc := 217) dX7_determinant_217 rfl ?_
      refine x_aload_n (pc := 219) dX7_determinant_219 rfl ?_
      refine x_gf (pc := 220) dX7_determinant_220 fX7_66 (by assumption) (by omega) ?_
      refine x_iload (pc := 223) dX7_determinant_223 rfl ?_
      refine x_al (pc := 225) dX7_determinant_225 (by assumption) (by omega) rfl (by omega) (q2 i (by omega)) ?_
      refine x_iload (pc := 226) dX7_determinant_226 rfl ?_
      refine x_ll (pc := 228) dX7_determinant_228 (q5 i (by omega)) (by have := q3 i (by omega); omega) rfl (by omega) ?_
      rw [j1]
      refine x_aload_n (pc := 229) dX7_determinant_229 rfl ?_
      refine x_gf (pc := 230) dX7_determinant_230 fX7_66 (by assumption) (by omega) ?_
      refine x_iload (pc := 233) dX7_determinant_233 rfl ?_
      refine x_al (pc := 235) dX7_determinant_235 (by assumption) (by omega) rfl (by omega) (q2 s (by omega)) ?_
      refine x_iload (pc := 236) dX7_determinant_236 rfl ?_
      refine x_ll (pc := 238) dX7_determinant_238 (q5 s (by omega)) (by have := q3 s (by omega); omega) rfl (by omega) ?_
      rw [j2]
      refine x_lmul (pc := 239) dX7_determinant_239 ?_
      refine x_aload_n (pc := 240) dX7_determinant_240 rfl ?_
      refine x_gf (pc := 241) dX7_determinant_241 fX7_66 (by assumption) (by omega) ?_
      refine x_iload (pc := 244) dX7_determinant_244 rfl ?_
      refine x_al (pc := 246) dX7_determinant_246 (by assumption) (by omega) rfl (by omega) (q2 i (by omega)) ?_
      refine x_iload (pc := 247) dX7_determinant_247 rfl ?_
      refine x_ll (pc := 249) dX7_determinant_249 (q5 i (by omega)) (by have := q3 i (by omega); omega) rfl (by omega) ?_
      rw [j3]
      refine x_aload_n (pc := 250) dX7_determinant_250 rfl ?_
      refine x_gf (pc := 251) dX7_determinant_251 fX7_66 (by assumption) (by omega) ?_
      refine x_iload (pc := 254) dX7_determinant_254 rfl ?_
      refine x_al (pc := 256) dX7_determinant_256 (by assumption) (by omega) rfl (by omega) (q2 s (by omega)) ?_
      refine x_iload (pc := 257) dX7_determinant_257 rfl ?_
      refine x_ll (pc := 259) dX7_determinant_259 (q5 s (by omega)) (by have := q3 s (by omega); omega) rfl (by omega) ?_
      rw [j4]
      refine x_lmul (pc := 260) dX7_determinant_260 ?_
      refine x_lsub (pc := 261) dX7_determinant_261 ?_
      refine x_lload (pc := 262) dX7_determinant_262 rfl ?_
      refine x_ldiv (pc := 264) dX7_determinant_264 (mb (pr_abs hA o s i k (by omega)) (pr_abs hA o s s s (by omega)) (pr_abs hA o s i s (by omega)) (pr_abs hA o s s k (by omega))) (by have := pr_absD hA o s (by omega); omega) (hd s (by omega)) ?_
      rw [mn_div (pr A o) s i k hd]
      refine x_ls (pc := 265) dX7_determinant_265 (q5 i (by omega)) (by have := q3 i (by omega); omega) rfl (by omega) ?_
      have r9 := q3 i (by omega)
      have sq2 := sq.put (show i < 9 by omega) (up (g i) k (mn (pr A o) (s + 1) i k))
      have Cb := C.keep (hp' := up hp (404 + r i) (ar 1 9 (up (g i) k (mn (pr A o) (s + 1) i k)))) (up_n _ _ (by omega))
      refine x_iinc (pc := 266) dX7_determinant_266 rfl (by decide) rfl ?_
      show Ex _ _ _ _ _ _ [_, _, _, _, _, _, _, _, _, _, _, _] _ _ _ _
      refine x_goto (pc := 269) (tgt := 204) dX7_determinant_269 (by decide) ?_
      exact ih (by omega) _ _ Cb sq2 (ff.up (by omega) (by omega)) (fun a b h1 h2 h3 h4 => by
        by_cases e1 : a = i
        · subst e1
          rw [up_s]
          by_cases e2 : b = k
          · subst e2; rw [up_s, if_pos ⟨by omega, by omega, by omega⟩]
          · rw [up_n _ _ e2, J a b h1 h2 h3 h4]
            by_cases l : s < b ∧ b < k
            · rw [if_pos ⟨by omega, by omega, by omega⟩, if_pos ⟨by omega, by omega, by omega⟩]
            · rw [if_neg (by omega), if_neg (by omega)]
        · rw [up_n _ _ e1, J a b h1 h2 h3 h4]
          by_cases l : s < a ∧ s < b ∧ a < i
          · rw [if_pos ⟨by omega, by omega, by omega⟩, if_pos ⟨by omega, by omega, by omega⟩]
          · rw [if_neg (by omega), if_neg (by omega)])

theorem k_di {G : GL} {d sz p N : Nat} (hz : 615 ≤ sz) {A : Nat → Nat → Int} (hA : ∀ i j, (A i j).natAbs ≤ 2) {M : Nat} (hM : M ≤ 9) {n H : Int} {e : Int} {o r : Nat → Nat} {s : Nat} (hd : ∀ t, t ≤ s + 1 → det t (pr A o) ≠ 0) {l9 : Int} {hp0 : HP} {Q : Option AV → HP → Nat → Prop}
    (hq : ∀ hp g l11, ModA hp p N → SqX hp r g → Fr hp0 hp 403 412 → JB (pr A o) M s M (s + 1) g → Ex G d 0 0 mX7_determinant 278 [vr 92, vi n, vi H, vi M, vl (det s (pr A o)), vu, vl e, vu, vi s, vi l9, vi M, l11] [] hp sz Q) :
    ∀ i, i ≤ M → s < i → ∀ hp g l11, ModA hp p N → SqX hp r g → Fr hp0 hp 403 412 → JB (pr A o) M s i (s + 1) g → Ex G d 0 0 mX7_determinant 192 [vr 92, vi n, vi H, vi M, vl (det s (pr A o)), vu, vl e, vu, vi s, vi l9, vi i, l11] [] hp sz Q := by
  refine down (fun hsi hp g l11 C sq ff J => ?_) (fun i hi ih hsi hp g l11 C sq ff J => ?_)
  · obtain ⟨C0, C1, C2, C3, C4, C5, C6, C7, C8, C11, C12, C13, C14, C15, C16, C17, C18, C19, C20, C21, C22, C23⟩ := id C
    have hob := C0.ob
    refine x_iload (pc := 192) dX7_determinant_192 rfl ?_
    refine x_iload_n (pc := 194) dX7_determinant_194 rfl ?_
    refine x_icmp_ge (pc := 195) (tgt := 278) dX7_determinant_195 (by decide) (by omega) (by omega) (fun c195 => ?_) (fun c195 => ?_)
    · exact hq hp g l11 C sq ff J
    · exact absurd c195 (by omega)
  · obtain ⟨C0, C1, C2, C3, C4, C5, C6, C7, C8, C11, C12, C13, C14, C15, C16, C17, C18, C19, C20, C21, C22, C23⟩ := id C
    have hob := C0.ob
    refine x_iload (pc := 192) dX7_determinant_192 rfl ?_
    refine x_iload_n (pc := 194) dX7_determinant_194 rfl ?_
    refine x_icmp_ge (pc := 195) (tgt := 278) dX7_determinant_195 (by decide) (by omega) (by omega) (fun c195 => ?_) (fun c195 => ?_)
    · exact absurd c195 (by omega)
    · refine x_iload (pc := 198) dX7_determinant_198 rfl ?_
      refine x_iconst (pc := 200) dX7_determinant_200 ?_
      refine x_iadd (pc := 201) dX7_determinant_201 ?_
      refine x_istore (pc := 202) dX7_determinant_202 (by decide) rfl ?_
      show Ex _ _ _ _ _ _ [_, _, _, _, _, _, _, _, _, _, _, _] _ _ _ _
      refine k_dk hz hA hM hsi hi hd (hp0 := hp0) (fun hp g Cb sqb ffb Jb => ?_) (s + 1) (by omega) (by omega) _ _ C sq ff J
      refine x_iinc (pc := 272) dX7_determinant_272 rfl (by decide) rfl ?_
      show Ex _ _ _ _ _ _ [_, _, _, _, _, _, _, _, _, _, _, _] _ _ _ _
      refine x_goto (pc := 275) (tgt := 192) dX7_determinant_275 (by decide) ?_
      exact ih (by omega) _ _ _ Cb sqb ffb (fun a b h1 h2 h3 h4 => by
        rw [Jb a b h1 h2 h3 h4]
        by_cases l : s < a ∧ s < b ∧ a < i + 1
        · rw [if_pos ⟨by omega, by omega, by omega⟩, if_pos ⟨by omega, by omega, by omega⟩]
        · rw [if_neg (by omega), if_neg (by omega)])

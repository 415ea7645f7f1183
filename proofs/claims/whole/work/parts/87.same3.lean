theorem k_same7 {G : GL} {d : Nat} {sz p N : Nat} (hz : 615 ≤ sz) (hN : 1 ≤ N ∧ N ≤ 8) (hP : isP p) {W : Nat → Nat} {S T : Nat → Int} {l a b : Nat} (hl : l < 8) {s : Nat → Nat} (hs : sz8 S l s) (hab : a ≤ b) (hb : b < N) {Q : Option AV → HP → Nat → Prop} {F : Nat → Int} {M : Nat → Nat → Int} {ld : Nat → Int} {m w : Nat} (hm : m ≤ 32) (hw : w ≤ 32) (hM : inQ m w M p) (hld : ∀ r, r < m → 0 ≤ ld r ∧ ld r < w) {g : Nat → Option Nat} {σ : Nat → Nat} {hp : HP} {Qs : Nat → Nat → Int} (t : TS hp p N W S T M ld m w g σ F Qs) {n c z : Nat} (hc : c < w) (hzz : z < 4) (hq : Ex G (d + 2) 0 0 mX7_same 309 [vr 92, vi l, vi a, vi b, vi (w : Nat), vi m, vi n, vi c, vi z, vi (vvS p M ld z c (if z = c then 1 else 0) m), vi m] [] hp sz Q) : ∀ r, r ≤ m → Ex G (d + 2) 0 0 mX7_same 265 [vr 92, vi l, vi a, vi b, vi (w : Nat), vi m, vi n, vi c, vi z, vi (vvS p M ld z c (if z = c then 1 else 0) r), vi r] [] hp sz Q := by
  obtain ⟨C, D, Mo, FA, ⟨gq, SA, SB⟩, SC⟩ := id t
  obtain ⟨C0, C1, C2, C3, C4, C5, C6, C7, C8, C11, C12, C13, C14, C15, C16, C17, C18, C19, C20, C21, C22, C23⟩ := id C
  have hob := C0.ob
  obtain ⟨D1, D2, D3, D4⟩ := id D
  obtain ⟨O1, O2, O3, O4, O5, O6⟩ := id Mo
  refine down ?_ (fun r hr ih => ?_)
  · refine x_iload (pc := 265) dX7_same_265 rfl ?_
    refine x_aload_n (pc := 267) dX7_same_267 rfl ?_
    refine x_gf (pc := 268) dX7_same_268 fX7_146 (by assumption) (by omega) ?_
    refine x_icmp_ge (pc := 271) (tgt := 309) dX7_same_271 (by decide) (by omega) (by omega) (fun c271 => ?_) (fun c271 => ?_)
    · exact hq
    · exact absurd c271 (by omega)
  · refine x_iload (pc := 265) dX7_same_265 rfl ?_
    refine x_aload_n (pc := 267) dX7_same_267 rfl ?_
    refine x_gf (pc := 268) dX7_same_268 fX7_146 (by assumption) (by omega) ?_
    refine x_icmp_ge (pc := 271) (tgt := 309) dX7_same_271 (by decide) (by omega) (by omega) (fun c271 => ?_) (fun c271 => ?_)
    · exact absurd c271 (by omega)
    · refine x_aload_n (pc := 274) dX7_same_274 rfl ?_
      refine x_gf (pc := 275) dX7_same_275 fX7_30 (by assumption) (by omega) ?_
      refine x_iload (pc := 278) dX7_same_278 rfl ?_
      refine x_il (pc := 280) dX7_same_280 (by assumption) (by omega) rfl (by omega) ?_
      refine x_iload (pc := 281) dX7_same_281 rfl ?_
      refine x_icmp_ne (pc := 283) (tgt := 303) dX7_same_283 (by decide) (by have := hld r hr; omega) (by omega) (fun c283 => ?_) (fun c283 => ?_)
      · refine x_iinc (pc := 303) dX7_same_303 rfl (by decide) rfl ?_
        show Ex _ _ _ _ _ _ [_, _, _, _, _, _, _, _, _, _, _] _ _ _ _
        refine x_goto (pc := 306) (tgt := 265) dX7_same_306 (by decide) ?_
        first
          | (have ih9 := ih
             rw [show vvS p M ld z c (if z = c then 1 else 0) (r + 1) = (-(M r c)) % p from if_pos c283] at ih9
             exact ih9)
          | (have ih9 := ih
             rw [show vvS p M ld z c (if z = c then 1 else 0) (r + 1) = vvS p M ld z c (if z = c then 1 else 0) r from if_neg c283] at ih9
             exact ih9)
      · refine x_aload_n (pc := 286) dX7_same_286 rfl ?_
        refine x_aload_n (pc := 287) dX7_same_287 rfl ?_
        refine x_gf (pc := 288) dX7_same_288 fX7_27 (by assumption) (by omega) ?_
        refine x_iload (pc := 291) dX7_same_291 rfl ?_
        obtain ⟨a1, a2, a3, a4⟩ := Mo.lt (i := r) (by omega)
        refine x_al (pc := 293) dX7_same_293 (by assumption) (by omega) rfl (by omega) (by assumption) ?_
        refine x_iload (pc := 294) dX7_same_294 rfl ?_
        refine x_il (pc := 296) dX7_same_296 (by assumption) (by omega) rfl (by omega) ?_
        refine x_ineg (pc := 297) dX7_same_297 ?_
        refine x_w1 (pc := 298) dX7_same_298 wX7_rest iX7_rest kX7_132 (by decide) rfl (Nat.le_of_ble_eq_true rfl) (by assumption) (by omega) (m_rest C hz hN hP (by have := hM r c hr hc; have := hP.le; omega)) ?_
        refine x_istore (pc := 301) dX7_same_301 (by decide) rfl ?_
        show Ex _ _ _ _ _ _ [_, _, _, _, _, _, _, _, _, _, _] _ _ _ _
        refine x_iinc (pc := 303) dX7_same_303 rfl (by decide) rfl ?_
        show Ex _ _ _ _ _ _ [_, _, _, _, _, _, _, _, _, _, _] _ _ _ _
        refine x_goto (pc := 306) (tgt := 265) dX7_same_306 (by decide) ?_
        first
          | (have ih9 := ih
             rw [show vvS p M ld z c (if z = c then 1 else 0) (r + 1) = (-(M r c)) % p from if_pos c283] at ih9
             exact ih9)
          | (have ih9 := ih
             rw [show vvS p M ld z c (if z = c then 1 else 0) (r + 1) = vvS p M ld z c (if z = c then 1 else 0) r from if_neg c283] at ih9
             exact ih9)

theorem k_same6 {G : GL} {d : Nat} {sz p N : Nat} (hz : 615 ≤ sz) (hN : 1 ≤ N ∧ N ≤ 8) (hP : isP p) {W : Nat → Nat} {S T : Nat → Int} {l a b : Nat} (hl : l < 8) {s : Nat → Nat} (hs : sz8 S l s) (hab : a ≤ b) (hb : b < N) {Q : Option AV → HP → Nat → Prop} {F : Nat → Int} {M : Nat → Nat → Int} {ld : Nat → Int} {m w : Nat} (hm : m ≤ 32) (hw : w ≤ 32) (hM : inQ m w M p) (hld : ∀ r, r < m → 0 ≤ ld r ∧ ld r < w) {g : Nat → Option Nat} {σ : Nat → Nat} {n c : Nat} (hc : c < w) (hn : n ≤ c) : ∀ z, z ≤ s a → ∀ (hp : HP) (Qs : Nat → Nat → Int) (v9 v10 : AV), TS hp p N W S T M ld m w g σ F Qs → (∀ h Q1 v9 v10, TS h p N W S T M ld m w g σ F Q1 → Ft hp h → (∀ x, x ≠ n → Q1 x = Qs x) → (∀ j, Q1 n j = if z ≤ j ∧ j < s a then vvS p M ld j c (if j = c then 1 else 0) m else Qs n j) → Ex G (d + 2) 0 0 mX7_same 327 [vr 92, vi l, vi a, vi b, vi (w : Nat), vi m, vi n, vi c, vi (s a : Nat), v9, v10] [] h sz Q) → Ex G (d + 2) 0 0 mX7_same 237 [vr 92, vi l, vi a, vi b, vi (w : Nat), vi m, vi n, vi c, vi z, v9, v10] [] hp sz Q := by
  have hs4 := (hs a (by omega)).2
  refine down (fun hp Qs v9 v10 t hq => ?_) (fun z hzz ih hp Qs v9 v10 t hq => ?_)
  · obtain ⟨C, D, Mo, FA, ⟨gq, SA, SB⟩, SC⟩ := id t
    obtain ⟨C0, C1, C2, C3, C4, C5, C6, C7, C8, C11, C12, C13, C14, C15, C16, C17, C18, C19, C20, C21, C22, C23⟩ := id C
    have hob := C0.ob
    obtain ⟨D1, D2, D3, D4⟩ := id D
    obtain ⟨O1, O2, O3, O4, O5, O6⟩ := id Mo
    refine x_iload (pc := 237) dX7_same_237 rfl ?_
    refine x_aload_n (pc := 239) dX7_same_239 rfl ?_
    refine x_iload_n (pc := 240) dX7_same_240 rfl ?_
    refine x_iload_n (pc := 241) dX7_same_241 rfl ?_
    refine x_w2 (pc := 242) dX7_same_242 wX7_at iX7_at kX7_118 (by decide) rfl (Nat.le_of_ble_eq_true rfl) (by assumption) (by omega) (m_at C hz hN D hl (by omega)) ?_
    rw [(hs _ (by omega)).1]
    refine x_icmp_ge (pc := 245) (tgt := 327) dX7_same_245 (by decide) (by omega) (by omega) (fun c245 => ?_) (fun c245 => ?_)
    · exact hq hp Qs _ _ t Ft.rf (fun x _ => rfl) (fun j => by rw [if_neg (by omega)])
    · exact absurd c245 (by omega)
  · obtain ⟨C, D, Mo, FA, ⟨gq, SA, SB⟩, SC⟩ := id t
    obtain ⟨C0, C1, C2, C3, C4, C5, C6, C7, C8, C11, C12, C13, C14, C15, C16, C17, C18, C19, C20, C21, C22, C23⟩ := id C
    have hob := C0.ob
    obtain ⟨D1, D2, D3, D4⟩ := id D
    obtain ⟨O1, O2, O3, O4, O5, O6⟩ := id Mo
    refine x_iload (pc := 237) dX7_same_237 rfl ?_
    refine x_aload_n (pc := 239) dX7_same_239 rfl ?_
    refine x_iload_n (pc := 240) dX7_same_240 rfl ?_
    refine x_iload_n (pc := 241) dX7_same_241 rfl ?_
    refine x_w2 (pc := 242) dX7_same_242 wX7_at iX7_at kX7_118 (by decide) rfl (Nat.le_of_ble_eq_true rfl) (by assumption) (by omega) (m_at C hz hN D hl (by omega)) ?_
    rw [(hs _ (by omega)).1]
    refine x_icmp_ge (pc := 245) (tgt := 327) dX7_same_245 (by decide) (by omega) (by omega) (fun c245 => ?_) (fun c245 => ?_)
    · exact absurd c245 (by omega)
    · refine x_iload (pc := 248) dX7_same_248 rfl ?_
      refine x_iload (pc := 250) dX7_same_250 rfl ?_
      refine x_icmp_ne (pc := 252) (tgt := 259) dX7_same_252 (by decide) (by omega) (by omega) (fun c252 => ?_) (fun c252 => ?_)
      · have kk : ¬ z = c := by omega
        refine x_iconst (pc := 259) dX7_same_259 ?_
        refine x_istore (pc := 260) dX7_same_260 (by decide) rfl ?_
        show Ex _ _ _ _ _ _ [_, _, _, _, _, _, _, _, _, _, _] _ _ _ _
        refine x_iconst (pc := 262) dX7_same_262 ?_
        refine x_istore (pc := 263) dX7_same_263 (by decide) rfl ?_
        show Ex _ _ _ _ _ _ [_, _, _, _, _, _, _, _, _, _, _] _ _ _ _
        first
          | (have key : Ex G (d + 2) 0 0 mX7_same 265 [vr 92, vi l, vi a, vi b, vi (w : Nat), vi m, vi n, vi c, vi z, vi (vvS p M ld z c (if z = c then 1 else 0) 0), vi (0 : Nat)] [] hp sz Q := by
               refine k_same7 (d := d) hz hN hP hl hs hab hb hm hw hM hld t hc (by omega) ?_ 0 (by omega)
               refine x_aload_n (pc := 309) dX7_same_309 rfl ?_
               refine x_gf (pc := 310) dX7_same_310 fX7_39 (by assumption) (by omega) ?_
               refine x_iload (pc := 313) dX7_same_313 rfl ?_
               refine x_al (pc := 315) dX7_same_315 (by assumption) (by omega) rfl (by omega) (SB n (by omega)) ?_
               refine x_iload (pc := 316) dX7_same_316 rfl ?_
               refine x_iload (pc := 318) dX7_same_318 rfl ?_
               refine x_is (pc := 320) dX7_same_320 (SC n (by omega)) (by omega) rfl (by omega) ?_
               refine x_iinc (pc := 321) dX7_same_321 rfl (by decide) rfl ?_
               show Ex _ _ _ _ _ _ [_, _, _, _, _, _, _, _, _, _, _] _ _ _ _
               refine x_goto (pc := 324) (tgt := 237) dX7_same_324 (by decide) ?_
               exact ih _ _ _ _ (t.sm (i := n) (by omega)) (fun h Q1 v9 v10 t1 f1 e0 e1 => hq h Q1 v9 v10 t1 ((Ft.rf.up (by omega) (by omega) (by omega) (by omega)).tr f1) (fun x hx => (e0 x hx).trans (up_n _ _ hx)) (fun j => by
                 rw [e1 j, up_s]
                 by_cases e : j = z
                 · subst e
                   rw [if_neg (c := j + 1 ≤ j ∧ j < s a) (by omega), up_s]
                   exact (if_pos ⟨Nat.le_refl _, by omega⟩).symm
                 · rw [up_n _ _ e]
                   by_cases e2 : z + 1 ≤ j ∧ j < s a
                   · rw [if_pos e2]; exact (if_pos ⟨by omega, by omega⟩).symm
                   · rw [if_neg e2]; exact (if_neg (by omega)).symm))
             rw [show vvS p M ld z c (if z = c then 1 else 0) 0 = 1 from if_pos (by omega)] at key
             exact key)
          | (have key : Ex G (d + 2) 0 0 mX7_same 265 [vr 92, vi l, vi a, vi b, vi (w : Nat), vi m, vi n, vi c, vi z, vi (vvS p M ld z c (if z = c then 1 else 0) 0), vi (0 : Nat)] [] hp sz Q := by
               refine k_same7 (d := d) hz hN hP hl hs hab hb hm hw hM hld t hc (by omega) ?_ 0 (by omega)
               refine x_aload_n (pc := 309) dX7_same_309 rfl ?_
               refine x_gf (pc := 310) dX7_same_310 fX7_39 (by assumption) (by omega) ?_
               refine x_iload (pc := 313) dX7_same_313 rfl ?_
               refine x_al (pc := 315) dX7_same_315 (by assumption) (by omega) rfl (by omega) (SB n (by omega)) ?_
               refine x_iload (pc := 316) dX7_same_316 rfl ?_
               refine x_iload (pc := 318) dX7_same_318 rfl ?_
               refine x_is (pc := 320) dX7_same_320 (SC n (by omega)) (by omega) rfl (by omega) ?_
               refine x_iinc (pc := 321) dX7_same_321 rfl (by decide) rfl ?_
               show Ex _ _ _ _ _ _ [_, _, _, _, _, _, _, _, _, _, _] _ _ _ _
               refine x_goto (pc := 324) (tgt := 237) dX7_same_324 (by decide) ?_
               exact ih _ _ _ _ (t.sm (i := n) (by omega)) (fun h Q1 v9 v10 t1 f1 e0 e1 => hq h Q1 v9 v10 t1 ((Ft.rf.up (by omega) (by omega) (by omega) (by omega)).tr f1) (fun x hx => (e0 x hx).trans (up_n _ _ hx)) (fun j => by
                 rw [e1 j, up_s]
                 by_cases e : j = z
                 · subst e
                   rw [if_neg (c := j + 1 ≤ j ∧ j < s a) (by omega), up_s]
                   exact (if_pos ⟨Nat.le_refl _, by omega⟩).symm
                 · rw [up_n _ _ e]
                   by_cases e2 : z + 1 ≤ j ∧ j < s a
                   · rw [if_pos e2]; exact (if_pos ⟨by omega, by omega⟩).symm
                   · rw [if_neg e2]; exact (if_neg (by omega)).symm))
             rw [show vvS p M ld z c (if z = c then 1 else 0) 0 = 0 from if_neg (by omega)] at key
             exact key)
      · have kk : z = c := by omega
        refine x_iconst (pc := 255) dX7_same_255 ?_
        refine x_goto (pc := 256) (tgt := 260) dX7_same_256 (by decide) ?_
        refine x_istore (pc := 260) dX7_same_260 (by decide) rfl ?_
        show Ex _ _ _ _ _ _ [_, _, _, _, _, _, _, _, _, _, _] _ _ _ _
        refine x_iconst (pc := 262) dX7_same_262 ?_
        refine x_istore (pc := 263) dX7_same_263 (by decide) rfl ?_
        show Ex _ _ _ _ _ _ [_, _, _, _, _, _, _, _, _, _, _] _ _ _ _
        first
          | (have key : Ex G (d + 2) 0 0 mX7_same 265 [vr 92, vi l, vi a, vi b, vi (w : Nat), vi m, vi n, vi c, vi z, vi (vvS p M ld z c (if z = c then 1 else 0) 0), vi (0 : Nat)] [] hp sz Q := by
               refine k_same7 (d := d) hz hN hP hl hs hab hb hm hw hM hld t hc (by omega) ?_ 0 (by omega)
               refine x_aload_n (pc := 309) dX7_same_309 rfl ?_
               refine x_gf (pc := 310) dX7_same_310 fX7_39 (by assumption) (by omega) ?_
               refine x_iload (pc := 313) dX7_same_313 rfl ?_
               refine x_al (pc := 315) dX7_same_315 (by assumption) (by omega) rfl (by omega) (SB n (by omega)) ?_
               refine x_iload (pc := 316) dX7_same_316 rfl ?_
               refine x_iload (pc := 318) dX7_same_318 rfl ?_
               refine x_is (pc := 320) dX7_same_320 (SC n (by omega)) (by omega) rfl (by omega) ?_
               refine x_iinc (pc := 321) dX7_same_321 rfl (by decide) rfl ?_
               show Ex _ _ _ _ _ _ [_, _, _, _, _, _, _, _, _, _, _] _ _ _ _
               refine x_goto (pc := 324) (tgt := 237) dX7_same_324 (by decide) ?_
               exact ih _ _ _ _ (t.sm (i := n) (by omega)) (fun h Q1 v9 v10 t1 f1 e0 e1 => hq h Q1 v9 v10 t1 ((Ft.rf.up (by omega) (by omega) (by omega) (by omega)).tr f1) (fun x hx => (e0 x hx).trans (up_n _ _ hx)) (fun j => by
                 rw [e1 j, up_s]
                 by_cases e : j = z
                 · subst e
                   rw [if_neg (c := j + 1 ≤ j ∧ j < s a) (by omega), up_s]
                   exact (if_pos ⟨Nat.le_refl _, by omega⟩).symm
                 · rw [up_n _ _ e]
                   by_cases e2 : z + 1 ≤ j ∧ j < s a
                   · rw [if_pos e2]; exact (if_pos ⟨by omega, by omega⟩).symm
                   · rw [if_neg e2]; exact (if_neg (by omega)).symm))
             rw [show vvS p M ld z c (if z = c then 1 else 0) 0 = 1 from if_pos (by omega)] at key
             exact key)
          | (have key : Ex G (d + 2) 0 0 mX7_same 265 [vr 92, vi l, vi a, vi b, vi (w : Nat), vi m, vi n, vi c, vi z, vi (vvS p M ld z c (if z = c then 1 else 0) 0), vi (0 : Nat)] [] hp sz Q := by
               refine k_same7 (d := d) hz hN hP hl hs hab hb hm hw hM hld t hc (by omega) ?_ 0 (by omega)
               refine x_aload_n (pc := 309) dX7_same_309 rfl ?_
               refine x_gf (pc := 310) dX7_same_310 fX7_39 (by assumption) (by omega) ?_
               refine x_iload (pc := 313) dX7_same_313 rfl ?_
               refine x_al (pc := 315) dX7_same_315 (by assumption) (by omega) rfl (by omega) (SB n (by omega)) ?_
               refine x_iload (pc := 316) dX7_same_316 rfl ?_
               refine x_iload (pc := 318) dX7_same_318 rfl ?_
               refine x_is (pc := 320) dX7_same_320 (SC n (by omega)) (by omega) rfl (by omega) ?_
               refine x_iinc (pc := 321) dX7_same_321 rfl (by decide) rfl ?_
               show Ex _ _ _ _ _ _ [_, _, _, _, _, _, _, _, _, _, _] _ _ _ _
               refine x_goto (pc := 324) (tgt := 237) dX7_same_324 (by decide) ?_
               exact ih _ _ _ _ (t.sm (i := n) (by omega)) (fun h Q1 v9 v10 t1 f1 e0 e1 => hq h Q1 v9 v10 t1 ((Ft.rf.up (by omega) (by omega) (by omega) (by omega)).tr f1) (fun x hx => (e0 x hx).trans (up_n _ _ hx)) (fun j => by
                 rw [e1 j, up_s]
                 by_cases e : j = z
                 · subst e
                   rw [if_neg (c := j + 1 ≤ j ∧ j < s a) (by omega), up_s]
                   exact (if_pos ⟨Nat.le_refl _, by omega⟩).symm
                 · rw [up_n _ _ e]
                   by_cases e2 : z + 1 ≤ j ∧ j < s a
                   · rw [if_pos e2]; exact (if_pos ⟨by omega, by omega⟩).symm
                   · rw [if_neg e2]; exact (if_neg (by omega)).symm))
             rw [show vvS p M ld z c (if z = c then 1 else 0) 0 = 0 from if_neg (by omega)] at key
             exact key)

theorem k_same5 {G : GL} {d : Nat} {sz p N : Nat} (hz : 615 ≤ sz) (hN : 1 ≤ N ∧ N ≤ 8) (hP : isP p) {W : Nat → Nat} {S T : Nat → Int} {l a b : Nat} (hl : l < 8) {s : Nat → Nat} (hs : sz8 S l s) (hab : a ≤ b) (hb : b < N) {Q : Option AV → HP → Nat → Prop} {F : Nat → Int} {M : Nat → Nat → Int} {ld : Nat → Int} {m w : Nat} (hm : m ≤ 32) (hw : w ≤ 32) (hM : inQ m w M p) (hld : ∀ r, r < m → 0 ≤ ld r ∧ ld r < w) {g : Nat → Option Nat} {σ : Nat → Nat} : ∀ c, c ≤ w → ∀ (hp : HP) (Qs : Nat → Nat → Int) (n : Nat) (v8 v9 v10 : AV), TS hp p N W S T M ld m w g σ F Qs → n ≤ c → (∀ t, t < n → ∃ x, x < c ∧ (∀ i, i < m → ld i ≠ (x : Int)) ∧ ∀ z, z < s a → Qs t z = vvS p M ld z x (if z = x then 1 else 0) m) ∧ (∀ x, x < c → (∀ i, i < m → ld i ≠ (x : Int)) → ∃ t, t < n ∧ ∀ z, z < s a → Qs t z = vvS p M ld z x (if z = x then 1 else 0) m) → (∀ h Q1 n1, TS h p N W S T M ld m w g σ F Q1 → Ft hp h → n1 ≤ w → (∀ t, t < n1 → ∃ x, x < w ∧ (∀ i, i < m → ld i ≠ (x : Int)) ∧ ∀ z, z < s a → Q1 t z = vvS p M ld z x (if z = x then 1 else 0) m) ∧ (∀ x, x < w → (∀ i, i < m → ld i ≠ (x : Int)) → ∃ t, t < n1 ∧ ∀ z, z < s a → Q1 t z = vvS p M ld z x (if z = x then 1 else 0) m) → Q (some (vi n1)) h sz) → Ex G (d + 2) 0 0 mX7_same 215 [vr 92, vi l, vi a, vi b, vi (w : Nat), vi m, vi n, vi c, v8, v9, v10] [] hp sz Q := by
  refine down (fun hp Qs n v8 v9 v10 t hn qf hq => ?_) (fun c hc ih hp Qs n v8 v9 v10 t hn qf hq => ?_)
  · obtain ⟨C, D, Mo, FA, ⟨gq, SA, SB⟩, SC⟩ := id t
    obtain ⟨C0, C1, C2, C3, C4, C5, C6, C7, C8, C11, C12, C13, C14, C15, C16, C17, C18, C19, C20, C21, C22, C23⟩ := id C
    have hob := C0.ob
    obtain ⟨D1, D2, D3, D4⟩ := id D
    obtain ⟨O1, O2, O3, O4, O5, O6⟩ := id Mo
    refine x_iload (pc := 215) dX7_same_215 rfl ?_
    refine x_iload (pc := 217) dX7_same_217 rfl ?_
    refine x_icmp_ge (pc := 219) (tgt := 336) dX7_same_219 (by decide) (by omega) (by omega) (fun c219 => ?_) (fun c219 => ?_)
    · refine x_iload (pc := 336) dX7_same_336 rfl ?_
      refine x_iret (pc := 338) dX7_same_338 rfl (hq hp Qs n t Ft.rf hn qf)
    · exact absurd c219 (by omega)
  · obtain ⟨C, D, Mo, FA, ⟨gq, SA, SB⟩, SC⟩ := id t
    obtain ⟨C0, C1, C2, C3, C4, C5, C6, C7, C8, C11, C12, C13, C14, C15, C16, C17, C18, C19, C20, C21, C22, C23⟩ := id C
    have hob := C0.ob
    obtain ⟨D1, D2, D3, D4⟩ := id D
    obtain ⟨O1, O2, O3, O4, O5, O6⟩ := id Mo
    refine x_iload (pc := 215) dX7_same_215 rfl ?_
    refine x_iload (pc := 217) dX7_same_217 rfl ?_
    refine x_icmp_ge (pc := 219) (tgt := 336) dX7_same_219 (by decide) (by omega) (by omega) (fun c219 => ?_) (fun c219 => ?_)
    · exact absurd c219 (by omega)
    · refine x_aload_n (pc := 222) dX7_same_222 rfl ?_
      refine x_iload (pc := 223) dX7_same_223 rfl ?_
      refine x_y1 (pc := 225) dX7_same_225 wX7_isLead iX7_isLead kX7_166 (by decide) rfl (Nat.le_of_ble_eq_true rfl) (by assumption) (by omega) (m_isLead C hz hN ⟨g, σ, Mo⟩ (by omega) (c := (c : Int)) (by omega) (fun i hi => by have := hld i hi; omega)) (fun v225 h225 e225 => ?_)
      obtain ⟨rfl, rb, rfl, hrb⟩ := e225
      refine x_if_eq (pc := 228) (tgt := 234) dX7_same_228 (by decide) (bz_rg _) (fun c228 => ?_) (fun c228 => ?_)
      · have hfree : ∀ i, i < m → ld i ≠ (c : Int) := fun i hi e => by
          have := hrb.mpr ⟨i, hi, e⟩
          subst this
          exact absurd c228 (by decide)
        refine x_iconst (pc := 234) dX7_same_234 ?_
        refine x_istore (pc := 235) dX7_same_235 (by decide) rfl ?_
        show Ex _ _ _ _ _ _ [_, _, _, _, _, _, _, _, _, _, _] _ _ _ _
        refine k_same6 (d := d) hz hN hP hl hs hab hb hm hw hM hld hc hn 0 (by omega) _ Qs _ _ t (fun h1 Q1 v9 v10 t1 f1 e0 e1 => ?_)
        refine x_iinc (pc := 327) dX7_same_327 rfl (by decide) rfl ?_
        show Ex _ _ _ _ _ _ [_, _, _, _, _, _, _, _, _, _, _] _ _ _ _
        refine x_iinc (pc := 330) dX7_same_330 rfl (by decide) rfl ?_
        show Ex _ _ _ _ _ _ [_, _, _, _, _, _, _, _, _, _, _] _ _ _ _
        refine x_goto (pc := 333) (tgt := 215) dX7_same_333 (by decide) ?_
        exact ih h1 Q1 (n + 1) _ _ _ t1 (by omega) ⟨fun t ht => by
            by_cases e : t = n
            · subst e
              exact ⟨c, by omega, hfree, fun z hz9 => by rw [e1 z, if_pos ⟨by omega, hz9⟩]⟩
            · obtain ⟨x, x1, x2, x3⟩ := qf.1 t (by omega)
              exact ⟨x, by omega, x2, fun z hz9 => by rw [e0 t e]; exact x3 z hz9⟩, fun x hx hfx => by
            by_cases e : x = c
            · subst e
              exact ⟨n, by omega, fun z hz9 => by rw [e1 z, if_pos ⟨by omega, hz9⟩]⟩
            · obtain ⟨t, t1, t2⟩ := qf.2 x (by omega) hfx
              exact ⟨t, by omega, fun z hz9 => by rw [e0 t (by omega)]; exact t2 z hz9⟩⟩ (fun h2 Q2 n2 t2 f2 => hq h2 Q2 n2 t2 (f1.tr f2))
      · have hlead : ∃ i, i < m ∧ ld i = (c : Int) := hrb.mp (by cases rb; exact absurd rfl c228; rfl)
        refine x_goto (pc := 231) (tgt := 330) dX7_same_231 (by decide) ?_
        refine x_iinc (pc := 330) dX7_same_330 rfl (by decide) rfl ?_
        show Ex _ _ _ _ _ _ [_, _, _, _, _, _, _, _, _, _, _] _ _ _ _
        refine x_goto (pc := 333) (tgt := 215) dX7_same_333 (by decide) ?_
        exact ih _ Qs n _ _ _ t (by omega) ⟨fun t ht => by
            obtain ⟨x, x1, x2⟩ := qf.1 t ht
            exact ⟨x, by omega, x2⟩, fun x hx hfx => by
            by_cases e : x = c
            · subst e
              obtain ⟨i, hi, e9⟩ := hlead
              exact absurd e9 (hfx i hi)
            · exact qf.2 x (by omega) hfx⟩ hq

set_option maxRecDepth 4000 in
theorem m_same {K : Type} [Lean.Grind.CommRing K] {f : Int → K} {G : GL} {d : Nat} {sz p N : Nat} (hf : Iot p f) (hz : 615 ≤ sz) (hN : 1 ≤ N ∧ N ≤ 8) (hP : isP p) {W : Nat → Nat} {S T : Nat → Int} {l a b : Nat} (hl : l < 8) {s : Nat → Nat} (hs : sz8 S l s) (hab : a ≤ b) (hb : b < N) (hT : inTm T p) {hp : HP} {M : Nat → Nat → Int} {ld : Nat → Int} {m w : Nat} {g : Nat → Option Nat} {σ : Nat → Nat} {F : Nat → Int} {Qs : Nat → Nat → Int} (t : TS hp p N W S T M ld m w g σ F Qs) : Ct G (d + 2) 0 0 mX7_same [vr 92, vi l, vi a, vi b] hp sz (Vs (fun v h => ∃ n M1 ld1 m1 g1 σ1 F1 Q1, v = vi (n : Nat) ∧ TS h p N W S T M1 ld1 m1 (frs s a (b + 1)) g1 σ1 F1 Q1 ∧ Ft hp h ∧ n ≤ 32 ∧ (∀ j, a ≤ j → j ≤ b + 1 → F1 j = (frs s a j : Int)) ∧ (∀ t z, t < n → z < s a → 0 ≤ Q1 t z ∧ Q1 t z < p) ∧ (∀ t, t < n → ∃ Y : Nat → Nat → K, Sec f T (Lw (W l)) s l a b Y ∧ ∀ z, tr (s a) f (Q1 t) z = Y a z) ∧ ∀ Y : Nat → Nat → K, Sec f T (Lw (W l)) s l a b Y → Spn n (fun _ => True) (fun t => tr (s a) f (Q1 t)) (Y a)) sz) := by
  show Ex _ _ _ _ _ _ [vr 92, vi l, vi a, vi b, vu, vu, vu, vu, vu, vu, vu] _ _ _ _
  have hpl := hP.le
  have hw8 := frs_le (s := s) (a := a) (fun k hk => (hs k hk).2) (b + 1) (by omega)
  obtain ⟨C, D, Mo, FA, ⟨gq, SA, SB⟩, SC⟩ := id t
  obtain ⟨C0, C1, C2, C3, C4, C5, C6, C7, C8, C11, C12, C13, C14, C15, C16, C17, C18, C19, C20, C21, C22, C23⟩ := id C
  have hob := C0.ob
  obtain ⟨D1, D2, D3, D4⟩ := id D
  obtain ⟨O1, O2, O3, O4, O5, O6⟩ := id Mo
  refine x_aload_n (pc := 0) dX7_same_0 rfl ?_
  refine x_gf (pc := 1) dX7_same_1 fX7_36 (by assumption) (by omega) ?_
  refine x_iload_n (pc := 4) dX7_same_4 rfl ?_
  refine x_iconst (pc := 5) dX7_same_5 ?_
  refine x_is (pc := 6) dX7_same_6 (by assumption) (by omega) rfl (by omega) ?_
  refine x_iload_n (pc := 7) dX7_same_7 rfl ?_
  refine x_istore (pc := 8) dX7_same_8 (by decide) rfl ?_
  show Ex _ _ _ _ _ _ [_, _, _, _, _, _, _, _, _, _, _] _ _ _ _
  refine k_same1 (d := d) hz hN hP hl hs hab hb a (by omega) (Nat.le_refl _) _ _ (t.fr (F' := up F a 0)) (fun j h1 h2 => by rw [show j = a by omega, up_s, frs_a]; rfl) (fun hF F1 tF fF' hF1 => ?_)
  have fF : Ft hp hF := (Ft.rf.up (by omega) (by omega) (by omega) (by omega)).tr fF'
  obtain ⟨C, D, Mo, FA, ⟨gq, SA, SB⟩, SC⟩ := id tF
  obtain ⟨C0, C1, C2, C3, C4, C5, C6, C7, C8, C11, C12, C13, C14, C15, C16, C17, C18, C19, C20, C21, C22, C23⟩ := id C
  have hobF := C0.ob
  refine x_aload_n (pc := 46) dX7_same_46 rfl ?_
  refine x_gf (pc := 47) dX7_same_47 fX7_36 (by assumption) (by omega) ?_
  refine x_iload_n (pc := 50) dX7_same_50 rfl ?_
  refine x_iconst (pc := 51) dX7_same_51 ?_
  refine x_iadd (pc := 52) dX7_same_52 ?_
  refine x_il (pc := 53) (j := b + 1) dX7_same_53 (by assumption) (by omega) (by omega) (by omega) ?_
  rw [hF1 (b + 1) (by omega) (by omega)]
  refine x_istore (pc := 54) dX7_same_54 (by decide) rfl ?_
  show Ex _ _ _ _ _ _ [_, _, _, _, _, _, _, _, _, _, _] _ _ _ _
  refine x_aload_n (pc := 56) dX7_same_56 rfl ?_
  refine x_iload (pc := 57) dX7_same_57 rfl ?_
  refine x_p1 (pc := 59) dX7_same_59 wX7_begin iX7_begin kX7_155 (by decide) rfl (Nat.le_of_ble_eq_true rfl) hobF (by omega) (m_begin C hz hN ⟨g, σ, Mo⟩ (n := frs s a (b + 1))) (fun h59 e59 => ?_)
  obtain ⟨CB, fB, g0, σ0, moB⟩ := e59
  have tB := tF.of CB moB fB
  refine x_iload_n (pc := 62) dX7_same_62 rfl ?_
  refine x_istore (pc := 63) dX7_same_63 (by decide) rfl ?_
  show Ex _ _ _ _ _ _ [_, _, _, _, _, _, _, _, _, _, _] _ _ _ _
  refine k_same2 (d := d) (w := frs s a (b + 1)) hz hN hP hl hs hab hb hT hF1 rfl a hab (Nat.le_refl _) h59 M 0 g0 σ0 _ _ _ _ _ tB (by omega) ⟨fun j hj => absurd hj (Nat.not_lt_zero _), fun k i q => by unfold dnS at q; omega⟩ (fun i j hi => absurd hi (Nat.not_lt_zero _)) (fun h1 M1 m1 g1 σ1 v6 v7 v8 v9 v10 t1 f1 hm1 rb1 hM1 => ?_)
  obtain ⟨C, D, Mo, FA, ⟨gq, SA, SB⟩, SC⟩ := id t1
  have hob1 := C.1.ob
  refine x_aload_n (pc := 203) dX7_same_203 rfl ?_
  refine x_y0 (pc := 204) dX7_same_204 wX7_reduce iX7_reduce kX7_162 (by decide) rfl (Nat.le_of_ble_eq_true rfl) hob1 (by omega) (m_reduceK hf C hz hN hP ⟨g1, σ1, Mo⟩ (by omega) (by omega) hM1) (fun v204 h204 e204 => ?_)
  obtain ⟨C2, f204, M2, ld2, k1, rfl, mo2, q2, k2, k3, rk2, ls2, in2, sp2⟩ := e204
  obtain ⟨g2, σ2, Mo2⟩ := mo2
  have t2 := t1.of C2 Mo2 f204
  refine x_istore (pc := 207) dX7_same_207 (by decide) rfl ?_
  show Ex _ _ _ _ _ _ [_, _, _, _, _, _, _, _, _, _, _] _ _ _ _
  refine x_iconst (pc := 209) dX7_same_209 ?_
  refine x_istore (pc := 210) dX7_same_210 (by decide) rfl ?_
  show Ex _ _ _ _ _ _ [_, _, _, _, _, _, _, _, _, _, _] _ _ _ _
  refine x_iconst (pc := 212) dX7_same_212 ?_
  refine x_istore (pc := 213) dX7_same_213 (by decide) rfl ?_
  show Ex _ _ _ _ _ _ [_, _, _, _, _, _, _, _, _, _, _] _ _ _ _
  refine k_same5 (d := d) (m := k1) (w := frs s a (b + 1)) hz hN hP hl hs hab hb (by omega) (by omega) q2 (fun r hr => ⟨(ls2 r hr).1, (ls2 r hr).2.1⟩) 0 (by omega) h204 Qs 0 _ _ _ t2 (by omega) ⟨fun t ht => absurd ht (Nat.not_lt_zero _), fun x hx => absurd hx (Nat.not_lt_zero _)⟩ (fun h Q1 n1 t3 f3 hn1 qf => ?_)
  obtain ⟨sK1, sK2⟩ := same_K (n := n1) (Qs := Q1) hf (hf.ne hpl.1) hab (fun k hk => (hs k (by omega)).2) rb1 rk2 (fun r hr => (ls2 r hr).1) sp2 qf.1 qf.2
  refine ⟨_, rfl, rfl, n1, M2, ld2, k1, g2, σ2, F1, Q1, rfl, t3, ((((fF.tr fB.t).tr f1)).tr f204.t).tr f3, by omega, hF1, fun t z ht hz9 => ?_, sK1, sK2⟩
  obtain ⟨x, x1, x2, x3⟩ := qf.1 t ht
  rw [x3 z hz9]
  have : ∀ r, r ≤ k1 → 0 ≤ vvS p M2 ld2 z x (if z = x then 1 else 0) r ∧ vvS p M2 ld2 z x (if z = x then 1 else 0) r < p := by
    intro r
    induction r with
    | zero => intro _; show 0 ≤ (if z = x then (1 : Int) else 0) ∧ (if z = x then (1 : Int) else 0) < p; split <;> omega
    | succ r ih =>
      intro hr
      show 0 ≤ (if ld2 r = (z : Int) then (-(M2 r x)) % p else vvS p M2 ld2 z x (if z = x then 1 else 0) r) ∧ (if ld2 r = (z : Int) then (-(M2 r x)) % p else vvS p M2 ld2 z x (if z = x then 1 else 0) r) < p
      split
      · exact emod_rg (by omega)
      · exact ih (by omega)
  exact this k1 (Nat.le_refl _)

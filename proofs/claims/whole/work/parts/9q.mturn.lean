/-! turn, in the model -/
def nlT (T : Nat → Int) (l : Nat) : Nat → Int := fun i => T (l * 128 + i)
theorem nb_t {b : Bool} {T : Nat → Int} {l k r c : Nat} (h : bz b ≠ 0) : T (l * 128 + k * 16 + r * 4 + c) = nb b (nlT T l) k r c := by
  cases b
  · exact absurd rfl h
  · show _ = T (l * 128 + (k * 16 + r * 4 + c))
    congr 1
    omega
theorem nb_f {b : Bool} {T : Nat → Int} {l k r c : Nat} (h : bz b = 0) : T (l * 128 + k * 16 + c * 4 + r) = nb b (nlT T l) k r c := by
  cases b
  · show _ = T (l * 128 + (k * 16 + c * 4 + r))
    congr 1
    omega
  · exact absurd h (by decide)
theorem nb_rg {b : Bool} {T : Nat → Int} {p l k r c : Nat} (hT : inTm T p) (hl : l < 8) (hk : k < 7) (hr : r < 4) (hc : c < 4) : 0 ≤ nb b (nlT T l) k r c ∧ nb b (nlT T l) k r c < p := by
  unfold nb nlT
  split <;> exact hT _ (by omega)

theorem k_tu1 {G : GL} {d : Nat} {sz p N : Nat} (hz : 615 ≤ sz) (hN : 1 ≤ N ∧ N ≤ 8) (hP : isP p) {W : Nat → Nat} {S T : Nat → Int} (hT : inTm T p) {l t z x u mm : Nat} (hl : l < 8) (ht : t < N) {b : Bool} (hx : x ≤ 4) (hu : u ≤ 4) (hmm : mm ≤ 4) (hx0 : 0 < x → 0 < t) (hu0 : 0 < u → t + 1 < N) {Q : Option AV → HP → Nat → Prop} {ld : Nat → Int} {w : Nat} {F : Nat → Int} {Qs : Nat → Nat → Int} (hw : w = x + u) {g : Nat → Option Nat} {σ : Nat → Nat} {i : Nat} (hi : i < mm) {v4 v5 v6 v7 v15 v16 v17 v18 v19 : AV} : ∀ j, j ≤ x → ∀ (hp : HP) (M : Nat → Nat → Int), TS hp p N W S T M ld (i + 1) w g σ F Qs → (∀ h M1, TS h p N W S T M1 ld (i + 1) w g σ F Qs → Ft hp h → (∀ z, z ≠ i → M1 z = M z) → (∀ c, M1 i c = if j ≤ c ∧ c < x then nb b (nlT T l) (t - 1) i c else M i c) → Ex G (d + 3) 0 0 mX7_turn 271 [vr 92, vi l, vi t, vi z, v4, v5, v6, v7, vi (bz b), vi x, vi u, vi mm, vi i, vr (σ i), vi x, v15, v16, v17, v18, v19] [] h sz Q) → Ex G (d + 3) 0 0 mX7_turn 213 [vr 92, vi l, vi t, vi z, v4, v5, v6, v7, vi (bz b), vi x, vi u, vi mm, vi i, vr (σ i), vi j, v15, v16, v17, v18, v19] [] hp sz Q := by
  refine down (fun hp M tt hq => ?_) (fun j hj ih hp M tt hq => ?_)
  · obtain ⟨C, D, Mo, FA, ⟨gq, SA, SB⟩, SC⟩ := id tt
    obtain ⟨C0, C1, C2, C3, C4, C5, C6, C7, C8, C11, C12, C13, C14, C15, C16, C17, C18, C19, C20, C21, C22, C23⟩ := id C
    have hob := C0.ob
    obtain ⟨D1, D2, D3, D4⟩ := id D
    obtain ⟨O1, O2, O3, O4, O5, O6⟩ := id Mo
    refine x_iload (pc := 213) dX7_turn_213 rfl ?_
    refine x_iload (pc := 215) dX7_turn_215 rfl ?_
    refine x_icmp_ge (pc := 217) (tgt := 271) dX7_turn_217 (by decide) (by omega) (by omega) (fun c217 => ?_) (fun c217 => ?_)
    · exact hq hp M tt Ft.rf (fun z _ => rfl) (fun c => by rw [if_neg (by omega)])
    · exact absurd c217 (by omega)
  · obtain ⟨C, D, Mo, FA, ⟨gq, SA, SB⟩, SC⟩ := id tt
    obtain ⟨C0, C1, C2, C3, C4, C5, C6, C7, C8, C11, C12, C13, C14, C15, C16, C17, C18, C19, C20, C21, C22, C23⟩ := id C
    have hob := C0.ob
    obtain ⟨D1, D2, D3, D4⟩ := id D
    obtain ⟨O1, O2, O3, O4, O5, O6⟩ := id Mo
    obtain ⟨a1, a2, a3, a4⟩ := Mo.lt (i := i) (by omega)
    refine x_iload (pc := 213) dX7_turn_213 rfl ?_
    refine x_iload (pc := 215) dX7_turn_215 rfl ?_
    refine x_icmp_ge (pc := 217) (tgt := 271) dX7_turn_217 (by decide) (by omega) (by omega) (fun c217 => ?_) (fun c217 => ?_)
    · exact absurd c217 (by omega)
    · refine x_aload (pc := 220) dX7_turn_220 rfl ?_
      refine x_iload (pc := 222) dX7_turn_222 rfl ?_
      refine x_iload (pc := 224) dX7_turn_224 rfl ?_
      refine x_if_eq (pc := 226) (tgt := 248) dX7_turn_226 (by decide) (bz_rg _) (fun c226 => ?_) (fun c226 => ?_)
      · refine x_aload_n (pc := 248) dX7_turn_248 rfl ?_
        refine x_gf (pc := 249) dX7_turn_249 fX7_16 (by assumption) (by omega) ?_
        refine x_iload_n (pc := 252) dX7_turn_252 rfl ?_
        refine x_iload_n (pc := 253) dX7_turn_253 rfl ?_
        refine x_iconst (pc := 254) dX7_turn_254 ?_
        refine x_isub (pc := 255) dX7_turn_255 ?_
        rw [show (t : Int) - 1 = ((t - 1 : Nat) : Int) by omega]
        refine x_iload (pc := 256) dX7_turn_256 rfl ?_
        refine x_iload (pc := 258) dX7_turn_258 rfl ?_
        refine x_t4 (pc := 260) dX7_turn_260 wX7_cell sX7_cell kX7_128 (by decide) rfl (Nat.le_of_ble_eq_true rfl) (m_cell (l := l) (k := (t - 1)) (r := j) (c := i)) ?_
        refine x_il (pc := 263) dX7_turn_263 (by assumption) (by omega) rfl (by omega) ?_
        rw [nb_f (T := T) (l := l) (k := (t - 1)) (r := i) (c := j) c226]
        refine x_is (pc := 264) dX7_turn_264 a4 (by omega) rfl (by omega) ?_
        refine x_iinc (pc := 265) dX7_turn_265 rfl (by decide) rfl ?_
        show Ex _ _ _ _ _ _ [_, _, _, _, _, _, _, _, _, _, _, _, _, _, _, _, _, _, _, _] _ _ _ _
        refine x_goto (pc := 268) (tgt := 213) dX7_turn_268 (by decide) ?_
        exact ih _ _ (tt.row (i := i) (by omega)) (fun h M1 t1 f1 e0 e1 => hq h M1 t1 ((Ft.rf.up (by omega) (by omega) (by omega) (by omega)).tr f1) (fun z hz9 => (e0 z hz9).trans (up_n _ _ hz9)) (fun c => by
          rw [e1 c, up_s]
          by_cases e : c = j
          · subst e
            rw [if_neg (by omega), up_s]
            refine Eq.trans ?_ (if_pos (by omega)).symm
            rfl
          · rw [up_n _ _ e]
            by_cases e2 : j + 1 ≤ c ∧ c < x
            · rw [if_pos (by omega), if_pos (by omega)]
            · rw [if_neg (by omega), if_neg (by omega)]))
      · refine x_aload_n (pc := 229) dX7_turn_229 rfl ?_
        refine x_gf (pc := 230) dX7_turn_230 fX7_16 (by assumption) (by omega) ?_
        refine x_iload_n (pc := 233) dX7_turn_233 rfl ?_
        refine x_iload_n (pc := 234) dX7_turn_234 rfl ?_
        refine x_iconst (pc := 235) dX7_turn_235 ?_
        refine x_isub (pc := 236) dX7_turn_236 ?_
        rw [show (t : Int) - 1 = ((t - 1 : Nat) : Int) by omega]
        refine x_iload (pc := 237) dX7_turn_237 rfl ?_
        refine x_iload (pc := 239) dX7_turn_239 rfl ?_
        refine x_t4 (pc := 241) dX7_turn_241 wX7_cell sX7_cell kX7_128 (by decide) rfl (Nat.le_of_ble_eq_true rfl) (m_cell (l := l) (k := (t - 1)) (r := i) (c := j)) ?_
        refine x_il (pc := 244) dX7_turn_244 (by assumption) (by omega) rfl (by omega) ?_
        rw [nb_t (T := T) (l := l) (k := (t - 1)) (r := i) (c := j) c226]
        refine x_goto (pc := 245) (tgt := 264) dX7_turn_245 (by decide) ?_
        refine x_is (pc := 264) dX7_turn_264 a4 (by omega) rfl (by omega) ?_
        refine x_iinc (pc := 265) dX7_turn_265 rfl (by decide) rfl ?_
        show Ex _ _ _ _ _ _ [_, _, _, _, _, _, _, _, _, _, _, _, _, _, _, _, _, _, _, _] _ _ _ _
        refine x_goto (pc := 268) (tgt := 213) dX7_turn_268 (by decide) ?_
        exact ih _ _ (tt.row (i := i) (by omega)) (fun h M1 t1 f1 e0 e1 => hq h M1 t1 ((Ft.rf.up (by omega) (by omega) (by omega) (by omega)).tr f1) (fun z hz9 => (e0 z hz9).trans (up_n _ _ hz9)) (fun c => by
          rw [e1 c, up_s]
          by_cases e : c = j
          · subst e
            rw [if_neg (by omega), up_s]
            refine Eq.trans ?_ (if_pos (by omega)).symm
            rfl
          · rw [up_n _ _ e]
            by_cases e2 : j + 1 ≤ c ∧ c < x
            · rw [if_pos (by omega), if_pos (by omega)]
            · rw [if_neg (by omega), if_neg (by omega)]))

theorem k_tu2 {G : GL} {d : Nat} {sz p N : Nat} (hz : 615 ≤ sz) (hN : 1 ≤ N ∧ N ≤ 8) (hP : isP p) {W : Nat → Nat} {S T : Nat → Int} (hT : inTm T p) {l t z x u mm : Nat} (hl : l < 8) (ht : t < N) {b : Bool} (hx : x ≤ 4) (hu : u ≤ 4) (hmm : mm ≤ 4) (hx0 : 0 < x → 0 < t) (hu0 : 0 < u → t + 1 < N) {Q : Option AV → HP → Nat → Prop} {ld : Nat → Int} {w : Nat} {F : Nat → Int} {Qs : Nat → Nat → Int} (hw : w = x + u) {g : Nat → Option Nat} {σ : Nat → Nat} {i : Nat} (hi : i < mm) {v4 v5 v6 v7 v15 v16 v17 v18 v19 : AV} : ∀ j, j ≤ u → ∀ (hp : HP) (M : Nat → Nat → Int), TS hp p N W S T M ld (i + 1) w g σ F Qs → (∀ h M1, TS h p N W S T M1 ld (i + 1) w g σ F Qs → Ft hp h → (∀ z, z ≠ i → M1 z = M z) → (∀ c, M1 i c = if x + j ≤ c ∧ c < x + u then nb b (nlT T l) t i (c - x) else M i c) → Ex G (d + 3) 0 0 mX7_turn 331 [vr 92, vi l, vi t, vi z, v4, v5, v6, v7, vi (bz b), vi x, vi u, vi mm, vi i, vr (σ i), vi u, v15, v16, v17, v18, v19] [] h sz Q) → Ex G (d + 3) 0 0 mX7_turn 274 [vr 92, vi l, vi t, vi z, v4, v5, v6, v7, vi (bz b), vi x, vi u, vi mm, vi i, vr (σ i), vi j, v15, v16, v17, v18, v19] [] hp sz Q := by
  refine down (fun hp M tt hq => ?_) (fun j hj ih hp M tt hq => ?_)
  · obtain ⟨C, D, Mo, FA, ⟨gq, SA, SB⟩, SC⟩ := id tt
    obtain ⟨C0, C1, C2, C3, C4, C5, C6, C7, C8, C11, C12, C13, C14, C15, C16, C17, C18, C19, C20, C21, C22, C23⟩ := id C
    have hob := C0.ob
    obtain ⟨D1, D2, D3, D4⟩ := id D
    obtain ⟨O1, O2, O3, O4, O5, O6⟩ := id Mo
    refine x_iload (pc := 274) dX7_turn_274 rfl ?_
    refine x_iload (pc := 276) dX7_turn_276 rfl ?_
    refine x_icmp_ge (pc := 278) (tgt := 331) dX7_turn_278 (by decide) (by omega) (by omega) (fun c278 => ?_) (fun c278 => ?_)
    · exact hq hp M tt Ft.rf (fun z _ => rfl) (fun c => by rw [if_neg (by omega)])
    · exact absurd c278 (by omega)
  · obtain ⟨C, D, Mo, FA, ⟨gq, SA, SB⟩, SC⟩ := id tt
    obtain ⟨C0, C1, C2, C3, C4, C5, C6, C7, C8, C11, C12, C13, C14, C15, C16, C17, C18, C19, C20, C21, C22, C23⟩ := id C
    have hob := C0.ob
    obtain ⟨D1, D2, D3, D4⟩ := id D
    obtain ⟨O1, O2, O3, O4, O5, O6⟩ := id Mo
    obtain ⟨a1, a2, a3, a4⟩ := Mo.lt (i := i) (by omega)
    refine x_iload (pc := 274) dX7_turn_274 rfl ?_
    refine x_iload (pc := 276) dX7_turn_276 rfl ?_
    refine x_icmp_ge (pc := 278) (tgt := 331) dX7_turn_278 (by decide) (by omega) (by omega) (fun c278 => ?_) (fun c278 => ?_)
    · exact absurd c278 (by omega)
    · refine x_aload (pc := 281) dX7_turn_281 rfl ?_
      refine x_iload (pc := 283) dX7_turn_283 rfl ?_
      refine x_iload (pc := 285) dX7_turn_285 rfl ?_
      refine x_iadd (pc := 287) dX7_turn_287 ?_
      rw [show (x : Int) + (j : Int) = ((x + j : Nat) : Int) by omega]
      refine x_iload (pc := 288) dX7_turn_288 rfl ?_
      refine x_if_eq (pc := 290) (tgt := 310) dX7_turn_290 (by decide) (bz_rg _) (fun c290 => ?_) (fun c290 => ?_)
      · refine x_aload_n (pc := 310) dX7_turn_310 rfl ?_
        refine x_gf (pc := 311) dX7_turn_311 fX7_16 (by assumption) (by omega) ?_
        refine x_iload_n (pc := 314) dX7_turn_314 rfl ?_
        refine x_iload_n (pc := 315) dX7_turn_315 rfl ?_
        refine x_iload (pc := 316) dX7_turn_316 rfl ?_
        refine x_iload (pc := 318) dX7_turn_318 rfl ?_
        refine x_t4 (pc := 320) dX7_turn_320 wX7_cell sX7_cell kX7_128 (by decide) rfl (Nat.le_of_ble_eq_true rfl) (m_cell (l := l) (k := t) (r := j) (c := i)) ?_
        refine x_il (pc := 323) dX7_turn_323 (by assumption) (by omega) rfl (by omega) ?_
        rw [nb_f (T := T) (l := l) (k := t) (r := i) (c := j) c290]
        refine x_is (pc := 324) dX7_turn_324 a4 (by omega) rfl (by omega) ?_
        refine x_iinc (pc := 325) dX7_turn_325 rfl (by decide) rfl ?_
        show Ex _ _ _ _ _ _ [_, _, _, _, _, _, _, _, _, _, _, _, _, _, _, _, _, _, _, _] _ _ _ _
        refine x_goto (pc := 328) (tgt := 274) dX7_turn_328 (by decide) ?_
        exact ih _ _ (tt.row (i := i) (by omega)) (fun h M1 t1 f1 e0 e1 => hq h M1 t1 ((Ft.rf.up (by omega) (by omega) (by omega) (by omega)).tr f1) (fun z hz9 => (e0 z hz9).trans (up_n _ _ hz9)) (fun c => by
          rw [e1 c, up_s]
          by_cases e : c = (x + j)
          · subst e
            rw [if_neg (by omega), up_s]
            refine Eq.trans ?_ (if_pos (by omega)).symm
            rw [show x + j - x = j by omega]
          · rw [up_n _ _ e]
            by_cases e2 : (x + j) + 1 ≤ c ∧ c < x + u
            · rw [if_pos (by omega), if_pos (by omega)]
            · rw [if_neg (by omega), if_neg (by omega)]))
      · refine x_aload_n (pc := 293) dX7_turn_293 rfl ?_
        refine x_gf (pc := 294) dX7_turn_294 fX7_16 (by assumption) (by omega) ?_
        refine x_iload_n (pc := 297) dX7_turn_297 rfl ?_
        refine x_iload_n (pc := 298) dX7_turn_298 rfl ?_
        refine x_iload (pc := 299) dX7_turn_299 rfl ?_
        refine x_iload (pc := 301) dX7_turn_301 rfl ?_
        refine x_t4 (pc := 303) dX7_turn_303 wX7_cell sX7_cell kX7_128 (by decide) rfl (Nat.le_of_ble_eq_true rfl) (m_cell (l := l) (k := t) (r := i) (c := j)) ?_
        refine x_il (pc := 306) dX7_turn_306 (by assumption) (by omega) rfl (by omega) ?_
        rw [nb_t (T := T) (l := l) (k := t) (r := i) (c := j) c290]
        refine x_goto (pc := 307) (tgt := 324) dX7_turn_307 (by decide) ?_
        refine x_is (pc := 324) dX7_turn_324 a4 (by omega) rfl (by omega) ?_
        refine x_iinc (pc := 325) dX7_turn_325 rfl (by decide) rfl ?_
        show Ex _ _ _ _ _ _ [_, _, _, _, _, _, _, _, _, _, _, _, _, _, _, _, _, _, _, _] _ _ _ _
        refine x_goto (pc := 328) (tgt := 274) dX7_turn_328 (by decide) ?_
        exact ih _ _ (tt.row (i := i) (by omega)) (fun h M1 t1 f1 e0 e1 => hq h M1 t1 ((Ft.rf.up (by omega) (by omega) (by omega) (by omega)).tr f1) (fun z hz9 => (e0 z hz9).trans (up_n _ _ hz9)) (fun c => by
          rw [e1 c, up_s]
          by_cases e : c = (x + j)
          · subst e
            rw [if_neg (by omega), up_s]
            refine Eq.trans ?_ (if_pos (by omega)).symm
            rw [show x + j - x = j by omega]
          · rw [up_n _ _ e]
            by_cases e2 : (x + j) + 1 ≤ c ∧ c < x + u
            · rw [if_pos (by omega), if_pos (by omega)]
            · rw [if_neg (by omega), if_neg (by omega)]))

theorem k_tu0 {G : GL} {d : Nat} {sz p N : Nat} (hz : 615 ≤ sz) (hN : 1 ≤ N ∧ N ≤ 8) (hP : isP p) {W : Nat → Nat} {S T : Nat → Int} (hT : inTm T p) {l t z x u mm : Nat} (hl : l < 8) (ht : t < N) {b : Bool} (hx : x ≤ 4) (hu : u ≤ 4) (hmm : mm ≤ 4) (hx0 : 0 < x → 0 < t) (hu0 : 0 < u → t + 1 < N) {Q : Option AV → HP → Nat → Prop} {ld : Nat → Int} {w : Nat} {F : Nat → Int} {Qs : Nat → Nat → Int} (hw : w = x + u) {v4 v5 v6 v7 v15 v16 v17 v18 v19 : AV} : ∀ i, i ≤ mm → ∀ (hp : HP) (M : Nat → Nat → Int) (g : Nat → Option Nat) (σ : Nat → Nat) (v13 v14 : AV), TS hp p N W S T M ld i w g σ F Qs → (∀ z, z < i → ∀ c, c < x + u → M z c = gat b (nlT T l) t x z c) → inQ i w M p → (∀ h M1 g1 σ1 v13 v14, TS h p N W S T M1 ld mm w g1 σ1 F Qs → Ft hp h → (∀ z, z < mm → ∀ c, c < x + u → M1 z c = gat b (nlT T l) t x z c) → inQ mm w M1 p → Ex G (d + 3) 0 0 mX7_turn 337 [vr 92, vi l, vi t, vi z, v4, v5, v6, v7, vi (bz b), vi x, vi u, vi mm, vi mm, v13, v14, v15, v16, v17, v18, v19] [] h sz Q) → Ex G (d + 3) 0 0 mX7_turn 197 [vr 92, vi l, vi t, vi z, v4, v5, v6, v7, vi (bz b), vi x, vi u, vi mm, vi i, v13, v14, v15, v16, v17, v18, v19] [] hp sz Q := by
  refine down (fun hp M g σ v13 v14 tt hM hO hq => ?_) (fun i hi ih hp M g σ v13 v14 tt hM hO hq => ?_)
  · obtain ⟨C, D, Mo, FA, ⟨gq, SA, SB⟩, SC⟩ := id tt
    obtain ⟨C0, C1, C2, C3, C4, C5, C6, C7, C8, C11, C12, C13, C14, C15, C16, C17, C18, C19, C20, C21, C22, C23⟩ := id C
    have hob := C0.ob
    obtain ⟨D1, D2, D3, D4⟩ := id D
    obtain ⟨O1, O2, O3, O4, O5, O6⟩ := id Mo
    refine x_iload (pc := 197) dX7_turn_197 rfl ?_
    refine x_iload (pc := 199) dX7_turn_199 rfl ?_
    refine x_icmp_ge (pc := 201) (tgt := 337) dX7_turn_201 (by decide) (by omega) (by omega) (fun c201 => ?_) (fun c201 => ?_)
    · exact hq hp M g σ _ _ tt Ft.rf hM hO
    · exact absurd c201 (by omega)
  · obtain ⟨C, D, Mo, FA, ⟨gq, SA, SB⟩, SC⟩ := id tt
    obtain ⟨C0, C1, C2, C3, C4, C5, C6, C7, C8, C11, C12, C13, C14, C15, C16, C17, C18, C19, C20, C21, C22, C23⟩ := id C
    have hob := C0.ob
    obtain ⟨D1, D2, D3, D4⟩ := id D
    obtain ⟨O1, O2, O3, O4, O5, O6⟩ := id Mo
    refine x_iload (pc := 197) dX7_turn_197 rfl ?_
    refine x_iload (pc := 199) dX7_turn_199 rfl ?_
    refine x_icmp_ge (pc := 201) (tgt := 337) dX7_turn_201 (by decide) (by omega) (by omega) (fun c201 => ?_) (fun c201 => ?_)
    · exact absurd c201 (by omega)
    · refine x_aload_n (pc := 204) dX7_turn_204 rfl ?_
      refine x_y0 (pc := 205) dX7_turn_205 wX7_newRow iX7_newRow kX7_158 (by decide) rfl (Nat.le_of_ble_eq_true rfl) (by assumption) (by omega) (m_newRow C hz hN ⟨g, σ, Mo⟩ (by omega) (by omega)) (fun v205 h205 e205 => ?_)
      obtain ⟨C1, f205, M1, g1, σ1, rfl, m1, n0, n1, n2⟩ := e205
      have t1 := tt.of C1 m1 f205
      refine x_astore (pc := 208) dX7_turn_208 (by decide) rfl ?_
      show Ex _ _ _ _ _ _ [_, _, _, _, _, _, _, _, _, _, _, _, _, _, _, _, _, _, _, _] _ _ _ _
      refine x_iconst (pc := 210) dX7_turn_210 ?_
      refine x_istore (pc := 211) dX7_turn_211 (by decide) rfl ?_
      show Ex _ _ _ _ _ _ [_, _, _, _, _, _, _, _, _, _, _, _, _, _, _, _, _, _, _, _] _ _ _ _
      refine k_tu1 (d := d) hz hN hP hT hl ht hx hu hmm hx0 hu0 hw hi 0 (by omega) h205 M1 t1 (fun h2 M2 t2 f2 e0 e1 => ?_)
      refine x_iconst (pc := 271) dX7_turn_271 ?_
      refine x_istore (pc := 272) dX7_turn_272 (by decide) rfl ?_
      show Ex _ _ _ _ _ _ [_, _, _, _, _, _, _, _, _, _, _, _, _, _, _, _, _, _, _, _] _ _ _ _
      refine k_tu2 (d := d) hz hN hP hT hl ht hx hu hmm hx0 hu0 hw hi 0 (by omega) h2 M2 t2 (fun h3 M3 t3 f3 e2 e3 => ?_)
      have hrow : ∀ c, c < x + u → M3 i c = gat b (nlT T l) t x i c := fun c hc => by
        unfold gat
        rw [e3 c]
        by_cases a1 : c < x
        · rw [if_neg (by omega), e1 c, if_pos (by omega), if_pos a1]
        · rw [if_neg (c := c < x) a1, if_pos (by omega)]
      refine x_iinc (pc := 331) dX7_turn_331 rfl (by decide) rfl ?_
      show Ex _ _ _ _ _ _ [_, _, _, _, _, _, _, _, _, _, _, _, _, _, _, _, _, _, _, _] _ _ _ _
      refine x_goto (pc := 334) (tgt := 197) dX7_turn_334 (by decide) ?_
      exact ih h3 M3 g1 σ1 _ _ t3 (fun z hz9 c hc => by
        by_cases e : z = i
        · subst e; exact hrow c hc
        · rw [e2 z e, e0 z e, n0 z e]; exact hM z (by omega) c hc) (fun z c hz9 hc => by
        by_cases e : z = i
        · subst e
          rw [hrow c (by omega)]
          unfold gat
          by_cases a1 : c < x
          · rw [if_pos a1]; exact nb_rg hT hl (by omega) (by omega) (by omega)
          · rw [if_neg a1]; exact nb_rg hT hl (by omega) (by omega) (by omega)
        · rw [e2 z e, e0 z e, n0 z e]; exact hO z c (by omega) hc) (fun h M9 g9 σ9 v13 v14 t9 f9 => hq h M9 g9 σ9 v13 v14 t9 (((f205.t.tr f2).tr f3).tr f9))

def hdm (ld : Nat → Int) (k : Nat) : Nat → Int := fun j => if (List.range k).any (fun r => ld r == (j : Int)) then 0 else -1
theorem hdm_f {ld : Nat → Int} {k j : Nat} : hdm ld k j = -1 ↔ ∀ r, r < k → ld r ≠ (j : Int) := by
  unfold hdm
  by_cases h : (List.range k).any (fun r => ld r == (j : Int)) = true
  · rw [if_pos h]
    obtain ⟨r, hr, e⟩ := List.any_eq_true.mp h
    constructor
    · intro q; omega
    · intro q
      exact absurd (by simpa using e) (q r (List.mem_range.mp hr))
  · rw [if_neg h]
    refine ⟨fun _ r hr e => h (List.any_eq_true.mpr ⟨r, List.mem_range.mpr hr, by simpa using e⟩), fun _ => rfl⟩

def Ft6 (hp h : HP) : Prop := ∀ x, x ≠ 360 → h x = hp x
theorem Ft6.rf {hp : HP} : Ft6 hp hp := fun _ _ => rfl
theorem Ft6.tr {h1 h2 h3 : HP} (a : Ft6 h1 h2) (b : Ft6 h2 h3) : Ft6 h1 h3 := fun x e => (b x e).trans (a x e)
theorem Ft6.up {hp h : HP} {c : AC} (f : Ft6 hp h) : Ft6 hp (up h 360 c) := fun x e => (up_n _ _ e).trans (f x e)
theorem TS.k6 {h h' : HP} {p N : Nat} {W : Nat → Nat} {S T : Nat → Int} {M : Nat → Nat → Int} {ld : Nat → Int} {m w : Nat} {g : Nat → Option Nat} {σ : Nat → Nat} {F : Nat → Int} {Qs : Nat → Nat → Int} (t : TS h p N W S T M ld m w g σ F Qs) (f : ∀ x, x ≤ 359 → h' x = h x) (f2 : ∀ x, 361 ≤ x → x ≤ 395 → h' x = h x) : TS h' p N W S T M ld m w g σ F Qs := by
  obtain ⟨t1, t2, t3, t4, ⟨g', t5, t5b⟩, t6⟩ := t
  exact ⟨t1.keep (f _ (by omega)), t2.keep (fun x _ h2 => f x (by omega)), t3.keep (f _ (by omega)) (fun x _ h2 => f x (by omega)), (f2 _ (by omega) (by omega)).trans t4, ⟨g', (f2 _ (by omega) (by omega)).trans t5, t5b⟩, fun i hi => (f2 _ (by omega) (by omega)).trans (t6 i hi)⟩
theorem k_tu3 {G : GL} {d : Nat} {sz p N : Nat} (hz : 615 ≤ sz) (hN : 1 ≤ N ∧ N ≤ 8) {W : Nat → Nat} {S T : Nat → Int} {l t z x u mm : Nat} {b : Bool} (hx : x ≤ 4) (hu : u ≤ 4) {M : Nat → Nat → Int} {ld : Nat → Int} {m w : Nat} (hm : m ≤ 8) (hld : ∀ r, r < m → 0 ≤ ld r ∧ ld r < w) (hw : w = x + u) {F : Nat → Int} {Qs : Nat → Nat → Int} {g : Nat → Option Nat} {σ : Nat → Nat} {Q : Option AV → HP → Nat → Prop} {i12 : Int} {v4 v5 v6 v7 v15 v16 v17 v18 v19 : AV} : ∀ c, c ≤ x + u → ∀ (hp : HP) (f0 : Nat → Int), TS hp p N W S T M ld m w g σ F Qs → hp 360 = ar 0 9 f0 → (∀ i, i < nf (hdm ld m) c → ∃ k : Nat, f0 i = (k : Int) ∧ k < c ∧ hdm ld m k = -1 ∧ nf (hdm ld m) k = i) → (∀ h f1, TS h p N W S T M ld m w g σ F Qs → h 360 = ar 0 9 f1 → Ft6 hp h → (∀ i, i < nf (hdm ld m) (x + u) → ∃ k : Nat, f1 i = (k : Int) ∧ k < (x + u) ∧ hdm ld m k = -1 ∧ nf (hdm ld m) k = i) → Ex G (d + 3) 0 0 mX7_turn 389 [vr 92, vi l, vi t, vi z, v4, v5, v6, v7, vi (bz b), vi x, vi u, vi mm, vi i12, vi (nf (hdm ld m) (x + u) : Nat), vi (x + u : Nat), v15, v16, v17, v18, v19] [] h sz Q) → Ex G (d + 3) 0 0 mX7_turn 349 [vr 92, vi l, vi t, vi z, v4, v5, v6, v7, vi (bz b), vi x, vi u, vi mm, vi i12, vi (nf (hdm ld m) c : Nat), vi c, v15, v16, v17, v18, v19] [] hp sz Q := by
  refine down (fun hp f0 tt A1 hF hq => ?_) (fun c hc ih hp f0 tt A1 hF hq => ?_)
  · obtain ⟨C, D, Mo, FA, ⟨gq, SA, SB⟩, SC⟩ := id tt
    obtain ⟨C0, C1, C2, C3, C4, C5, C6, C7, C8, C11, C12, C13, C14, C15, C16, C17, C18, C19, C20, C21, C22, C23⟩ := id C
    have hob := C0.ob
    obtain ⟨D1, D2, D3, D4⟩ := id D
    obtain ⟨O1, O2, O3, O4, O5, O6⟩ := id Mo
    refine x_iload (pc := 349) dX7_turn_349 rfl ?_
    refine x_iload (pc := 351) dX7_turn_351 rfl ?_
    refine x_iload (pc := 353) dX7_turn_353 rfl ?_
    refine x_iadd (pc := 355) dX7_turn_355 ?_
    refine x_icmp_ge (pc := 356) (tgt := 389) dX7_turn_356 (by decide) (by omega) (by omega) (fun c356 => ?_) (fun c356 => ?_)
    · exact hq hp f0 tt A1 Ft6.rf hF
    · exact absurd c356 (by omega)
  · obtain ⟨C, D, Mo, FA, ⟨gq, SA, SB⟩, SC⟩ := id tt
    obtain ⟨C0, C1, C2, C3, C4, C5, C6, C7, C8, C11, C12, C13, C14, C15, C16, C17, C18, C19, C20, C21, C22, C23⟩ := id C
    have hob := C0.ob
    obtain ⟨D1, D2, D3, D4⟩ := id D
    obtain ⟨O1, O2, O3, O4, O5, O6⟩ := id Mo
    refine x_iload (pc := 349) dX7_turn_349 rfl ?_
    refine x_iload (pc := 351) dX7_turn_351 rfl ?_
    refine x_iload (pc := 353) dX7_turn_353 rfl ?_
    refine x_iadd (pc := 355) dX7_turn_355 ?_
    refine x_icmp_ge (pc := 356) (tgt := 389) dX7_turn_356 (by decide) (by omega) (by omega) (fun c356 => ?_) (fun c356 => ?_)
    · exact absurd c356 (by omega)
    · refine x_aload_n (pc := 359) dX7_turn_359 rfl ?_
      refine x_iload (pc := 360) dX7_turn_360 rfl ?_
      refine x_y1 (pc := 362) dX7_turn_362 wX7_isLead iX7_isLead kX7_166 (by decide) rfl (Nat.le_of_ble_eq_true rfl) (by assumption) (by omega) (m_isLead C hz hN ⟨g, σ, Mo⟩ (by omega) (c := (c : Int)) (by omega) (fun i hi => by have := hld i hi; omega)) (fun v362 h362 e362 => ?_)
      obtain ⟨rfl, rb, rfl, hrb⟩ := e362
      refine x_if_eq (pc := 365) (tgt := 371) dX7_turn_365 (by decide) (bz_rg _) (fun c365 => ?_) (fun c365 => ?_)
      · have hfree : hdm ld m c = -1 := hdm_f.mpr (fun r hr e => by
          have := hrb.mpr ⟨r, hr, e⟩
          subst this
          exact absurd c365 (by decide))
        have hle := nf_le (hdm ld m) c
        refine x_aload_n (pc := 371) dX7_turn_371 rfl ?_
        refine x_gf (pc := 372) dX7_turn_372 fX7_33 (by assumption) (by omega) ?_
        refine x_iload (pc := 375) dX7_turn_375 rfl ?_
        refine x_iload (pc := 377) dX7_turn_377 rfl ?_
        refine x_is (pc := 379) dX7_turn_379 (by assumption) (by omega) rfl (by omega) ?_
        refine x_iinc (pc := 380) dX7_turn_380 rfl (by decide) rfl ?_
        show Ex _ _ _ _ _ _ [_, _, _, _, _, _, _, _, _, _, _, _, _, _, _, _, _, _, _, _] _ _ _ _
        refine x_iinc (pc := 383) dX7_turn_383 rfl (by decide) rfl ?_
        show Ex _ _ _ _ _ _ [_, _, _, _, _, _, _, _, _, _, _, _, _, _, _, _, _, _, _, _] _ _ _ _
        refine x_goto (pc := 386) (tgt := 349) dX7_turn_386 (by decide) ?_
        first
          | (rw [show ((nf (hdm ld m) c : Nat) : Int) + 1 = ((nf (hdm ld m) (c + 1) : Nat) : Int) from by rw [nf_t hfree]; rfl]
             exact ih _ _ (tt.k6 (fun x hx => up_n _ _ (by omega)) (fun x h1 h2 => up_n _ _ (by omega))) (up_s _ _ _) (fun i hi => by
               rw [nf_t hfree] at hi
               by_cases e : i = nf (hdm ld m) c
               · subst e; exact ⟨c, up_s _ _ _, by omega, hfree, rfl⟩
               · rw [up_n _ _ e]
                 obtain ⟨k, k1, k2, k3⟩ := hF i (by omega)
                 exact ⟨k, k1, by omega, k3⟩) (fun h f1 t1 a1 ff => hq h f1 t1 a1 ((Ft6.rf.up).tr ff)))
          | (rw [show nf (hdm ld m) c = nf (hdm ld m) (c + 1) from (nf_f hlead).symm]
             exact ih _ _ tt A1 (fun i hi => by
               rw [nf_f hlead] at hi
               obtain ⟨k, k1, k2, k3⟩ := hF i hi
               exact ⟨k, k1, by omega, k3⟩) hq)
      · have hlead : ¬ hdm ld m c = -1 := fun q => by
          obtain ⟨i, h1, h2⟩ := hrb.mp (by cases rb; exact absurd rfl c365; rfl)
          exact hdm_f.mp q i h1 h2
        refine x_goto (pc := 368) (tgt := 383) dX7_turn_368 (by decide) ?_
        refine x_iinc (pc := 383) dX7_turn_383 rfl (by decide) rfl ?_
        show Ex _ _ _ _ _ _ [_, _, _, _, _, _, _, _, _, _, _, _, _, _, _, _, _, _, _, _] _ _ _ _
        refine x_goto (pc := 386) (tgt := 349) dX7_turn_386 (by decide) ?_
        first
          | (rw [show ((nf (hdm ld m) c : Nat) : Int) + 1 = ((nf (hdm ld m) (c + 1) : Nat) : Int) from by rw [nf_t hfree]; rfl]
             exact ih _ _ (tt.k6 (fun x hx => up_n _ _ (by omega)) (fun x h1 h2 => up_n _ _ (by omega))) (up_s _ _ _) (fun i hi => by
               rw [nf_t hfree] at hi
               by_cases e : i = nf (hdm ld m) c
               · subst e; exact ⟨c, up_s _ _ _, by omega, hfree, rfl⟩
               · rw [up_n _ _ e]
                 obtain ⟨k, k1, k2, k3⟩ := hF i (by omega)
                 exact ⟨k, k1, by omega, k3⟩) (fun h f1 t1 a1 ff => hq h f1 t1 a1 ((Ft6.rf.up).tr ff)))
          | (rw [show nf (hdm ld m) c = nf (hdm ld m) (c + 1) from (nf_f hlead).symm]
             exact ih _ _ tt A1 (fun i hi => by
               rw [nf_f hlead] at hi
               obtain ⟨k, k1, k2, k3⟩ := hF i hi
               exact ⟨k, k1, by omega, k3⟩) hq)
